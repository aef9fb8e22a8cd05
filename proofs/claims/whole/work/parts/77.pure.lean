/-! what a sentence speaks of -/
def dfB (S : Nat → Bool) (v w : Nat) : Bool := S w == S (w ^^^ 2 ^ v)
def hg (S : Nat → Bool) (v : Nat) : Bool := !(aN (dfB S v) 256)
theorem sp_A : ∀ v, v < 6 → ∀ i, i < 64 → i.testBit v = false → 2 ^ v + i < 64 ∧ ∀ q, q < 4 → 64 * q + (2 ^ v + i) = (64 * q + i) ^^^ 2 ^ v := by decide +kernel
theorem sp_B : ∀ v, v < 6 → ∀ i, i < 64 → i.testBit v = true → i ^^^ 2 ^ v < 64 ∧ (i ^^^ 2 ^ v).testBit v = false ∧ ∀ q, q < 4 → (64 * q + (i ^^^ 2 ^ v)) ^^^ 2 ^ v = 64 * q + i ∧ 64 * q + (i ^^^ 2 ^ v) = (64 * q + i) ^^^ 2 ^ v := by decide +kernel
theorem sp_C : ∀ v, v < 2 → ∀ q, q < 4 → q ^^^ 2 ^ v < 4 ∧ (nI q ^^^ ((1 : Int32) <<< ((nI (v + 6) - 6) &&& 31))) = nI (q ^^^ 2 ^ v) ∧ ∀ i, i < 64 → (64 * q + i) ^^^ 2 ^ (v + 6) = 64 * (q ^^^ 2 ^ v) + i := by decide +kernel
theorem sp_D : ∀ v, v < 8 → ∀ w, w < 256 → w ^^^ 2 ^ v < 256 ∧ (nI w ^^^ ((1 : Int32) <<< (nI v &&& 31))) = nI (w ^^^ 2 ^ v) := by decide +kernel
theorem sp_p : ∀ v, v < 6 → 2 ^ v < 64 := by decide
theorem hangsOn9 {wd : Nat → Int64} {t v q : Nat} {S : Nat → Bool} (ht : t < 40) (hv : v < 8) (hq : q < 4) (h : ∀ q, q < 4 → ∀ i, i < 64 → bl (wd (4 * t + q)) i = S (64 * q + i)) : f_X4_hangsOn (nI (4 * t)) wd (nI v) (nI q) = some (bi (!(aN (fun i => dfB S v (64 * q + i)) 64))) := by
  unfold f_X4_hangsOn
  have fin : ∀ p : Prop, [Decidable p] → (p ↔ aN (fun i => dfB S v (64 * q + i)) 64 = true) → (if p then some (0 : Int32) else some 1) = some (bi (!(aN (fun i => dfB S v (64 * q + i)) 64))) := by
    intro p _ hp
    by_cases hh : p
    · rw [if_pos hh, hp.mp hh]; rfl
    · rw [if_neg hh]
      cases hA : aN (fun i => dfB S v (64 * q + i)) 64
      · rfl
      · exact absurd (hp.mpr hA) hh
  by_cases h6 : v < 6
  · rw [if_pos (by rw [i6, nI_lt_iff (by omega) (by omega)]; exact h6), word9 wd ht hq, oB1_s, oB1_s, oL_s]
    obtain ⟨x, e1, e2⟩ := whereSo9 hv hq
    rw [e1, oB1_s]
    apply fin
    rw [lg_cmp_eq, one_shl v (by omega), aN_iff]
    have hso : ∀ i, i < 64 → bl x i = i.testBit v := fun i hi => by
      rw [e2 i hi, bt_nI, decide_eq_true (by omega), Bool.true_and, ← wso_tb v h6 q hq i hi]
    have hx : ∀ i, i < 64 → bl ((wd (4 * t + q) ^^^ ((wd (4 * t + q)).toUInt64 >>> ((nI (2 ^ v)).toInt64.toUInt64 &&& Int64.toUInt64 63)).toInt64) &&& (x ^^^ -1)) i = ((S (64 * q + i) ^^ bl (wd (4 * t + q)) (2 ^ v + i)) && !(i.testBit v)) := fun i hi => by
      rw [l_and, l_xor, l_xor, l_m1 i hi, l_ushr _ (sp_p v h6), h q hq i hi, hso i hi, Bool.xor_true]
    have hd : ∀ i, i < 64 → i.testBit v = false → bl (wd (4 * t + q)) (2 ^ v + i) = S ((64 * q + i) ^^^ 2 ^ v) := fun i hi hb => by
      obtain ⟨a1, a2⟩ := sp_A v h6 i hi hb
      rw [h q hq _ a1, a2 q hq]
    constructor
    · intro hz i hi
      show (S (64 * q + i) == S ((64 * q + i) ^^^ 2 ^ v)) = true
      rw [beq_iff_eq]
      cases hb : i.testBit v
      · have := hx i hi
        rw [hz, l_0, hb, hd i hi hb] at this
        revert this
        cases S (64 * q + i) <;> cases S ((64 * q + i) ^^^ 2 ^ v) <;> decide
      · obtain ⟨b1, b2, b3⟩ := sp_B v h6 i hi hb
        have := hx _ b1
        rw [hz, l_0, b2, hd _ b1 b2, (b3 q hq).1, (b3 q hq).2] at this
        revert this
        cases S (64 * q + i) <;> cases S ((64 * q + i) ^^^ 2 ^ v) <;> decide
    · intro hA
      apply l_ext
      intro i hi
      rw [hx i hi, l_0]
      cases hb : i.testBit v
      · have : S (64 * q + i) = S ((64 * q + i) ^^^ 2 ^ v) := by
          have := hA i hi
          exact beq_iff_eq.mp this
        rw [hd i hi hb, ← this]
        cases S (64 * q + i) <;> rfl
      · simp
  · rw [if_neg (by rw [i6, nI_lt_iff (by omega) (by omega)]; exact h6), word9 wd ht hq, oB1_s]
    obtain ⟨d1, d2, d3⟩ := sp_C (v - 6) (by omega) q hq
    rw [show v - 6 + 6 = v by omega] at d2 d3
    rw [d2, word9 wd ht d1, oB1_s]
    apply fin
    rw [lg_cmp_eq, aN_iff]
    constructor
    · intro he i hi
      show (S (64 * q + i) == S ((64 * q + i) ^^^ 2 ^ v)) = true
      rw [beq_iff_eq, d3 i hi, ← h q hq i hi, ← h _ d1 i hi, he]
    · intro hA
      apply l_ext
      intro i hi
      have : S (64 * q + i) = S ((64 * q + i) ^^^ 2 ^ v) := beq_iff_eq.mp (hA i hi)
      rw [h q hq i hi, h _ d1 i hi, this, d3 i hi]
theorem speaksOf9 {wd : Nat → Int64} {t : Nat} {S : Nat → Bool} (ht : t < 40) (h : ∀ q, q < 4 → ∀ i, i < 64 → bl (wd (4 * t + q)) i = S (64 * q + i)) : ∃ r, f_X4_speaksOf (nI (4 * t)) wd = some r ∧ ∀ y, y < 32 → bt r y = (decide (y < 8) && hg S y) := by
  unfold f_X4_speaksOf L_X4_speaksOf_4
  refine oF_P0 (σ := Int32 × Int32) (fun v z => z.2 = nI v ∧ ∀ y, y < 32 → bt z.1 y = (decide (y < v) && hg S y)) 8 (fun r => ∃ r', r = some r' ∧ ∀ y, y < 32 → bt r' y = (decide (y < 8) && hg S y)) _ ⟨rfl, fun y hy => by rw [b_0]; simp⟩ (by omega) ?_ ?_
  · rintro v ⟨z1, z2⟩ k hv ⟨g1, g2⟩ hk
    dsimp only at g1 g2 ⊢
    subst g1
    unfold b_X4_speaksOf_4
    rw [if_neg (by rw [i8, nI_le_iff (by omega) (by omega)]; omega)]
    unfold L_X4_speaksOf_12
    refine oF_P0 (σ := Int32 × Int32) (fun q z => z.2 = nI q ∧ ∀ y, y < 32 → bt z.1 y = ((decide (y < v) && hg S y) || (decide (y = v) && !(aN (dfB S v) (64 * q))))) 4 (fun r => ∃ r', r = some r' ∧ ∀ y, y < 32 → bt r' y = (decide (y < 8) && hg S y)) _ ⟨rfl, fun y hy => by rw [g2 y hy]; simp [aN]⟩ (by omega) ?_ ?_
    · rintro q ⟨y1, y2⟩ k' hq ⟨e1, e2⟩ hk'
      dsimp only at e1 e2 ⊢
      subst e1
      unfold b_X4_speaksOf_12 f_X4_speaksOf_32
      have ha := aN_add (dfB S v) (64 * q) 64
      rw [if_neg (by rw [i4, nI_le_iff (by omega) (by omega)]; omega), hangsOn9 ht hv hq h, oB1_s]
      simp only [bi_0, oL_s, nI_1]
      cases hA : aN (fun i => dfB S v (64 * q + i)) 64
      · rw [if_neg (by decide)]
        refine hk' _ ⟨rfl, fun y hy => ?_⟩
        dsimp only
        rw [b_or, bt_1sh (by omega) hy, e2 y hy, show 64 * (q + 1) = 64 * q + 64 by omega, ha, hA]
        by_cases ey : y = v <;> simp [ey]
      · rw [if_pos (by decide)]
        refine hk' _ ⟨rfl, fun y hy => ?_⟩
        dsimp only
        rw [e2 y hy, show 64 * (q + 1) = 64 * q + 64 by omega, ha, hA, Bool.and_true]
    · rintro ⟨y1, y2⟩ k' ⟨e1, e2⟩
      dsimp only at e1 e2 ⊢
      subst e1
      unfold b_X4_speaksOf_12
      rw [if_pos (show (4 : Int32) ≤ nI 4 by decide), oL_s, nI_1]
      refine hk _ ⟨rfl, fun y hy => ?_⟩
      dsimp only
      rw [e2 y hy]
      by_cases ey : y = v
      · subst ey; simp [hg]
      · by_cases e3 : y < v
        · simp [ey, e3, show y < v + 1 by omega]
        · simp [ey, e3, show ¬ y < v + 1 by omega]
  · rintro ⟨z1, z2⟩ k ⟨g1, g2⟩
    dsimp only at g1 g2 ⊢
    subst g1
    unfold b_X4_speaksOf_4
    rw [if_pos (show (8 : Int32) ≤ nI 8 by decide)]
    exact ⟨z1, rfl, g2⟩
theorem speaksOf10 {so : Nat → Int32} {t : Nat} {S : Nat → Bool} (ht : t < 40) (h : ∀ w, w < 256 → so (256 * t + w) = bi (S w)) : ∃ r, f_X10_speaksOf so (nI t) = some r ∧ ∀ y, y < 32 → bt r y = (decide (y < 8) && hg S y) := by
  unfold f_X10_speaksOf L_X10_speaksOf_4
  refine oF_P0 (σ := Int32 × Int32) (fun w z => z.2 = nI w ∧ ∀ y, y < 32 → bt z.1 y = (decide (y < 8) && !(aN (dfB S y) w))) 256 (fun r => ∃ r', r = some r' ∧ ∀ y, y < 32 → bt r' y = (decide (y < 8) && hg S y)) _ ⟨rfl, fun y hy => by rw [b_0]; simp [aN]⟩ (by omega) ?_ ?_
  · rintro w ⟨z1, z2⟩ k hw ⟨g1, g2⟩ hk
    dsimp only at g1 g2 ⊢
    subst g1
    unfold b_X10_speaksOf_4
    rw [if_neg (by rw [i256, nI_le_iff (by omega) (by omega)]; omega)]
    unfold L_X10_speaksOf_14
    refine oF_P0 (σ := Int32 × Int32) (fun v z => z.2 = nI v ∧ ∀ y, y < 32 → bt z.1 y = (decide (y < 8) && !(aN (dfB S y) (if y < v then w + 1 else w)))) 8 (fun r => ∃ r', r = some r' ∧ ∀ y, y < 32 → bt r' y = (decide (y < 8) && hg S y)) _ ⟨rfl, fun y hy => by rw [g2 y hy, if_neg (by omega)]⟩ (by omega) ?_ ?_
    · rintro v ⟨y1, y2⟩ k' hv ⟨e1, e2⟩ hk'
      dsimp only at e1 e2 ⊢
      subst e1
      unfold b_X10_speaksOf_14 f_X10_speaksOf_62
      obtain ⟨d1, d2⟩ := sp_D v hv w hw
      rw [if_neg (by rw [i8, nI_le_iff (by omega) (by omega)]; omega), oA_n (256 * t + w) _ (by rw [i256, nI_mul, nI_add]) (by omega) (by decide), oA_n (256 * t + (w ^^^ 2 ^ v)) _ (by rw [d2, i256, nI_mul, nI_add]) (by omega) (by decide), h w hw, h _ d1]
      simp only [bi_inj, oL_s, nI_1]
      have key : ∀ y, aN (dfB S y) (w + 1) = (aN (dfB S y) w && (S w == S (w ^^^ 2 ^ y))) := fun y => rfl
      by_cases hA : S w = S (w ^^^ 2 ^ v)
      · rw [if_pos hA, or_z]
        refine hk' _ ⟨rfl, fun y hy => ?_⟩
        dsimp only
        rw [e2 y hy]
        by_cases ey : y = v
        · subst ey
          rw [if_neg (by omega), if_pos (by omega), key, ← hA]; simp
        · by_cases e3 : y < v
          · rw [if_pos e3, if_pos (by omega)]
          · rw [if_neg e3, if_neg (by omega)]
      · rw [if_neg hA]
        refine hk' _ ⟨rfl, fun y hy => ?_⟩
        dsimp only
        rw [b_or, bt_1sh (by omega) hy, e2 y hy]
        by_cases ey : y = v
        · subst ey
          rw [if_neg (by omega), if_pos (by omega), key, beq_eq_false_iff_ne.mpr hA, decide_eq_true rfl, decide_eq_true hv]; simp
        · rw [decide_eq_false ey, Bool.or_false]
          by_cases e3 : y < v
          · rw [if_pos e3, if_pos (by omega)]
          · rw [if_neg e3, if_neg (by omega)]
    · rintro ⟨y1, y2⟩ k' ⟨e1, e2⟩
      dsimp only at e1 e2 ⊢
      subst e1
      unfold b_X10_speaksOf_14
      rw [if_pos (show (8 : Int32) ≤ nI 8 by decide), oL_s, nI_1]
      refine hk _ ⟨rfl, fun y hy => ?_⟩
      dsimp only
      rw [e2 y hy]
      by_cases e3 : y < 8
      · rw [if_pos e3]
      · rw [decide_eq_false e3]; rfl
  · rintro ⟨z1, z2⟩ k ⟨g1, g2⟩
    dsimp only at g1 g2 ⊢
    subst g1
    unfold b_X10_speaksOf_4
    rw [if_pos (show (256 : Int32) ≤ nI 256 by decide)]
    exact ⟨z1, rfl, g2⟩
theorem speaks_ok {wd : Nat → Int64} {so : Nat → Int32} {t : Nat} {S : Nat → Bool} (ht : t < 40) (h : ∀ q, q < 4 → ∀ i, i < 64 → bl (wd (4 * t + q)) i = S (64 * q + i)) (h2 : ∀ w, w < 256 → so (256 * t + w) = bi (S w)) : ∃ r, f_X4_speaksOf (nI (4 * t)) wd = some r ∧ f_X10_speaksOf so (nI t) = some r := by
  obtain ⟨r, e1, e2⟩ := speaksOf9 ht h
  obtain ⟨r', e3, e4⟩ := speaksOf10 ht h2
  refine ⟨r, e1, ?_⟩
  rw [e3, b_ext (fun y hy => by rw [e2 y hy, e4 y hy] : ∀ y, y < 32 → bt r y = bt r' y)]
theorem worldsSo_ok {wd : Nat → Int64} {so : Nat → Int32} {t : Nat} {S : Nat → Bool} (ht : t < 40) (h : ∀ q, q < 4 → ∀ i, i < 64 → bl (wd (4 * t + q)) i = S (64 * q + i)) (h2 : ∀ w, w < 256 → so (256 * t + w) = bi (S w)) : ∃ r, f_X4_worldsSo (nI (4 * t)) wd = some r ∧ f_X10_worldsSo so (nI t) = some r := by
  refine ⟨nI (cN S 256), ?_, ?_⟩
  · unfold f_X4_worldsSo L_X4_worldsSo_4
    refine oF_run0 (fun q => (nI (cN S (64 * q)), nI q)) 4 _ rfl (by omega) ?_ ?_
    · intro q hq k
      dsimp only
      unfold b_X4_worldsSo_4
      rw [if_neg (by rw [i4, nI_le_iff (by omega) (by omega)]; omega), word9 wd ht hq, oB1_s, bitCount13, oB1_s, oL_s, oL_s, nI_1, nI_add, show 64 * (q + 1) = 64 * q + 64 by omega, cN_add, cN_congr (h q hq)]
    · intro k
      dsimp only
      unfold b_X4_worldsSo_4
      rw [if_pos (show (4 : Int32) ≤ nI 4 by decide)]
  · unfold f_X10_worldsSo L_X10_worldsSo_4
    refine oF_run0 (fun w => (nI (cN S w), nI w)) 256 _ rfl (by omega) ?_ ?_
    · intro w hw k
      dsimp only
      unfold b_X10_worldsSo_4 f_X10_worldsSo_32
      rw [if_neg (by rw [i256, nI_le_iff (by omega) (by omega)]; omega), oA_n (256 * t + w) _ (by rw [i256, nI_mul, nI_add]) (by omega) (by decide), h2 w hw]
      simp only [bi_0, oL_s, nI_1, cN]
      cases S w
      · rw [if_pos rfl, add_z]; rfl
      · rw [if_neg (by decide)]; rfl
    · intro k
      dsimp only
      unfold b_X10_worldsSo_4
      rw [if_pos (show (256 : Int32) ≤ nI 256 by decide)]
