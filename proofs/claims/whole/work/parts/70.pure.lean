/-! worlds, by words of 64 -/
theorem wso_low : ∀ v, v < 6 → ∀ i, i < 64 → bl (xso v) i = i.testBit v := by decide +kernel
theorem wso_tb : ∀ v, v < 6 → ∀ q, q < 4 → ∀ i, i < 64 → i.testBit v = (64 * q + i).testBit v := by decide +kernel
theorem wso_hi : ∀ v, v < 2 → ∀ q, q < 4 → ∀ i, i < 64 → bt (nI q) v = (64 * q + i).testBit (v + 6) := by decide +kernel
theorem whereSo9 {v q : Nat} (hv : v < 8) (hq : q < 4) : ∃ x, f_X8_whereSo (nI v) (nI q) = some x ∧ ∀ i, i < 64 → bl x i = bt (nI (64 * q + i)) v := by
  unfold f_X8_whereSo
  have hb : ∀ i, bt (nI (64 * q + i)) v = (64 * q + i).testBit v := fun i => by rw [bt_nI, decide_eq_true (by omega), Bool.true_and]
  by_cases h6 : v < 6
  · rw [if_neg (by rw [i6, nI_le_iff (by omega) (by omega)]; omega), oA_n v _ rfl h6 (by decide)]
    exact ⟨_, rfl, fun i hi => by rw [wso_low v h6 i hi, wso_tb v h6 q hq i hi, hb]⟩
  · rw [if_pos (by rw [i6, nI_le_iff (by omega) (by omega)]; omega)]
    rw [show nI v - (6 : Int32) = nI (v - 6) by rw [show nI v = nI (v - 6) + 6 by rw [i6, nI_add]; congr 1; omega, Int32.add_sub_cancel]]
    by_cases hx : bt (nI q) (v - 6) = true
    · rw [if_pos ((bit_sh _ (by omega)).mpr hx)]
      refine ⟨_, rfl, fun i hi => ?_⟩
      have := wso_hi (v - 6) (by omega) q hq i hi
      rw [l_m1 i hi, hb, ← show v - 6 + 6 = v by omega, ← this, hx]
    · rw [if_neg (fun h => hx ((bit_sh _ (by omega)).mp h))]
      refine ⟨_, rfl, fun i hi => ?_⟩
      have := wso_hi (v - 6) (by omega) q hq i hi
      rw [l_0 i, hb, ← show v - 6 + 6 = v by omega, ← this]
      cases h9 : bt (nI q) (v - 6)
      · rfl
      · exact absurd h9 hx
/-- does a clause hold, letter by letter -/
def ch8 (p n w : Int32) : Nat → Bool
  | 0 => false
  | v + 1 => ch8 p n w v || (bt p v && bt w v) || (bt n v && !(bt w v))
theorem ch8_iff (p n w : Int32) : ∀ k, ch8 p n w k = true ↔ ∃ v, v < k ∧ ((bt p v = true ∧ bt w v = true) ∨ (bt n v = true ∧ bt w v = false)) := by
  intro k
  induction k with
  | zero => simp [ch8]
  | succ k ih =>
    rw [ch8, Bool.or_eq_true, Bool.or_eq_true, ih]
    simp only [Bool.and_eq_true, Bool.not_eq_true']
    constructor
    · rintro ((⟨v, h1, h2⟩ | h) | h)
      · exact ⟨v, by omega, h2⟩
      · exact ⟨k, by omega, Or.inl h⟩
      · exact ⟨k, by omega, Or.inr h⟩
    · rintro ⟨v, h1, h2⟩
      by_cases e : v = k
      · subst e
        rcases h2 with h2 | h2
        · exact Or.inl (Or.inr h2)
        · exact Or.inr h2
      · exact Or.inl (Or.inl ⟨v, by omega, h2⟩)
theorem ne0_iff (x : Int32) : (¬ x = 0) ↔ ∃ v, v < 32 ∧ bt x v = true := by
  constructor
  · intro h
    by_cases hh : ∃ v, v < 32 ∧ bt x v = true
    · exact hh
    · exfalso
      apply h
      apply b_ext
      intro i hi
      rw [b_0]
      cases hb : bt x i
      · rfl
      · exact absurd ⟨i, hi, hb⟩ hh
  · rintro ⟨v, h1, h2⟩ rfl
    rw [b_0] at h2
    exact absurd h2 (by decide)
theorem ch8_CH {p n : Int32} (hp : B8 p) (hn : B8 n) (w : Int32) : ch8 p n w 8 = CH p n w := by
  rw [Bool.eq_iff_iff, ch8_iff]
  unfold CH
  rw [Bool.or_eq_true, decide_eq_true_iff, decide_eq_true_iff, ne0_iff, ne0_iff]
  constructor
  · rintro ⟨v, h1, h2 | h2⟩
    · exact Or.inl ⟨v, by omega, by rw [b_and, h2.1, h2.2]; rfl⟩
    · exact Or.inr ⟨v, by omega, by rw [b_and, b_xor, b_m1 v (by omega), h2.1, h2.2]; rfl⟩
  · rintro (⟨v, h1, h2⟩ | ⟨v, h1, h2⟩)
    · rw [b_and, Bool.and_eq_true] at h2
      refine ⟨v, ?_, Or.inl h2⟩
      rcases Nat.lt_or_ge v 8 with h | h
      · exact h
      · rw [B8_bt.mp hp v h] at h2; exact absurd h2.1 (by decide)
    · rw [b_and, b_xor, b_m1 v h1, Bool.and_eq_true] at h2
      refine ⟨v, ?_, Or.inr ⟨h2.1, ?_⟩⟩
      · rcases Nat.lt_or_ge v 8 with h | h
        · exact h
        · rw [B8_bt.mp hn v h] at h2; exact absurd h2.1 (by decide)
      · cases h9 : bt w v
        · rfl
        · rw [h9] at h2; exact absurd h2.2 (by decide)
theorem whereClause9 {p n : Int32} (hp : B8 p) (hn : B8 n) {q : Nat} (hq : q < 4) : ∃ x, f_X8_whereClauseHolds p n (nI q) = some x ∧ ∀ i, i < 64 → bl x i = CH p n (nI (64 * q + i)) := by
  unfold f_X8_whereClauseHolds L_X8_whereClauseHolds_5
  refine oF_P0 (σ := Int64 × Int32) (fun v z => z.2 = nI v ∧ ∀ i, i < 64 → bl z.1 i = ch8 p n (nI (64 * q + i)) v) 8 (fun r => ∃ x, r = some x ∧ ∀ i, i < 64 → bl x i = CH p n (nI (64 * q + i))) _ ⟨rfl, fun i hi => l_0 i⟩ (by omega) ?_ ?_
  · rintro v ⟨z1, z2⟩ k hv ⟨g1, g2⟩ hk
    dsimp only at g1 g2 ⊢
    subst g1
    obtain ⟨x, e1, e2⟩ := whereSo9 hv hq
    unfold b_X8_whereClauseHolds_5 f_X8_whereClauseHolds_31 f_X8_whereClauseHolds_54
    rw [if_neg (by rw [i8, nI_le_iff (by omega) (by omega)]; omega)]
    simp only [e1, oB1_s, oL_s, nI_1, bit_sh _ (show v < 32 by omega)]
    cases h1 : bt p v <;> cases h2 : bt n v
    · rw [if_neg (by decide), if_neg (by decide)]
      refine hk _ ⟨rfl, fun i hi => ?_⟩
      show bl z1 i = (ch8 _ _ _ v || _ || _)
      rw [h1, h2, g2 i hi]; simp
    · rw [if_neg (by decide), if_pos rfl]
      refine hk _ ⟨rfl, fun i hi => ?_⟩
      show bl (z1 ||| (x ^^^ -1)) i = (ch8 _ _ _ v || _ || _)
      rw [h1, h2, l_or, l_xor, l_m1 i hi, g2 i hi, e2 i hi]; simp
    · rw [if_pos rfl, if_neg (by decide)]
      refine hk _ ⟨rfl, fun i hi => ?_⟩
      show bl (z1 ||| x) i = (ch8 _ _ _ v || _ || _)
      rw [h1, h2, l_or, g2 i hi, e2 i hi]; simp
    · rw [if_pos rfl, if_pos rfl]
      refine hk _ ⟨rfl, fun i hi => ?_⟩
      show bl ((z1 ||| x) ||| (x ^^^ -1)) i = (ch8 _ _ _ v || _ || _)
      rw [h1, h2, l_or, l_or, l_xor, l_m1 i hi, g2 i hi, e2 i hi]; simp
  · rintro ⟨z1, z2⟩ k ⟨g1, g2⟩
    dsimp only at g1 g2 ⊢
    subst g1
    unfold b_X8_whereClauseHolds_5
    rw [if_pos (show (8 : Int32) ≤ nI 8 by decide)]
    exact ⟨z1, rfl, fun i hi => by rw [g2 i hi, ch8_CH hp hn]⟩
/-- all clauses chosen hold -/
def AL (R : RW) (sel : Nat → Bool) (w : Int32) : Nat → Bool
  | 0 => true
  | s + 1 => AL R sel w s && (!(sel s) || CH (R 0 s) (R 1 s) w)
theorem AL_congr {R : RW} {sel sel' : Nat → Bool} (w : Int32) : ∀ {k : Nat}, (∀ s, s < k → sel s = sel' s) → AL R sel w k = AL R sel' w k := by
  intro k
  induction k with
  | zero => intro _; rfl
  | succ k ih => intro h; rw [AL, AL, ih (fun s hs => h s (by omega)), h k (by omega)]
theorem allHold10 (R : RW) {cl : Nat} (hcl : cl ≤ 10) (set w : Int32) : f_X10_allHold (nI cl) (R 0) (R 1) set w = some (bi (AL R (fun s => bt set s) w cl)) := by
  unfold f_X10_allHold L_X10_allHold_5
  refine oF_run0 (fun s => (bi (AL R (fun s => bt set s) w s), nI s)) cl _ rfl (by omega) ?_ ?_
  · intro s hs k
    dsimp only
    unfold b_X10_allHold_5 f_X10_allHold_41 f_X10_allHold_37 f_X10_allHold_42
    rw [if_neg (by rw [nI_le_iff (by omega) (by omega)]; omega), has10_eq _ (by omega), oB1_s, holdsIn10 _ _ (by omega), oB1_s]
    simp only [bi_0, oL_s, nI_1, AL]
    cases AL R (fun s => bt set s) w s <;> cases bt set s <;> cases CH (R 0 s) (R 1 s) w <;> simp [bi]
  · intro k
    dsimp only
    unfold b_X10_allHold_5
    rw [if_pos (by rw [nI_le_iff (by omega) (by omega)]; omega), oZ_bi]
/-- how many there are -/
def cN (P : Nat → Bool) : Nat → Nat
  | 0 => 0
  | k + 1 => cN P k + (if P k then 1 else 0)
theorem cN_le (P : Nat → Bool) : ∀ k, cN P k ≤ k := by
  intro k
  induction k with
  | zero => exact Nat.le_refl _
  | succ k ih => rw [cN]; split <;> omega
theorem cN_add (P : Nat → Bool) (a : Nat) : ∀ b, cN P (a + b) = cN P a + cN (fun i => P (a + i)) b := by
  intro b
  induction b with
  | zero => rfl
  | succ b ih => rw [← Nat.add_assoc, cN, cN, ih, Nat.add_assoc]
theorem cN_congr {P Q : Nat → Bool} : ∀ {k : Nat}, (∀ i, i < k → P i = Q i) → cN P k = cN Q k := by
  intro k
  induction k with
  | zero => intro _; rfl
  | succ k ih => intro h; rw [cN, cN, ih (fun i hi => h i (by omega)), h k (by omega)]
theorem worldsOf10 (R : RW) {cl : Nat} (hcl : cl ≤ 10) (set : Int32) : f_X10_worldsOf (nI cl) (R 0) (R 1) set = some (nI (cN (fun w => AL R (fun s => bt set s) (nI w) cl) 256)) := by
  unfold f_X10_worldsOf L_X10_worldsOf_4
  refine oF_run0 (fun w => (nI (cN (fun w => AL R (fun s => bt set s) (nI w) cl) w), nI w)) 256 _ rfl (by omega) ?_ ?_
  · intro w hw k
    dsimp only
    unfold b_X10_worldsOf_4 f_X10_worldsOf_26
    rw [if_neg (by rw [i256, nI_le_iff (by omega) (by omega)]; omega), allHold10 R hcl, oB1_s]
    simp only [bi_0, oL_s, nI_1, cN]
    by_cases hA : AL R (fun s => bt set s) (nI w) cl = true
    · rw [if_neg (by rw [hA]; decide), if_pos hA]
    · rw [if_pos (by simpa using hA), add_z, if_neg hA]; rfl
  · intro k
    dsimp only
    unfold b_X10_worldsOf_4
    rw [if_pos (show (256 : Int32) ≤ nI 256 by decide)]
theorem clausesOf10 (R : RW) {cl : Nat} (hcl : cl ≤ 10) (who : Int32) : ∃ set, f_X10_clausesOf (nI cl) (R 2) who = some set ∧ ∀ s, s < 32 → bt set s = (decide (s < cl) && decide (R 2 s = who)) := by
  unfold f_X10_clausesOf L_X10_clausesOf_4
  refine oF_P0 (σ := Int32 × Int32) (fun i z => z.2 = nI i ∧ ∀ s, s < 32 → bt z.1 s = (decide (s < i) && decide (R 2 s = who))) cl (fun r => ∃ set, r = some set ∧ ∀ s, s < 32 → bt set s = (decide (s < cl) && decide (R 2 s = who))) _ ⟨rfl, fun s hs => by rw [b_0]; simp⟩ (by omega) ?_ ?_
  · rintro i ⟨z1, z2⟩ k hi ⟨g1, g2⟩ hk
    dsimp only at g1 g2 ⊢
    subst g1
    unfold b_X10_clausesOf_4 f_X10_clausesOf_30
    rw [if_neg (by rw [nI_le_iff (by omega) (by omega)]; omega), oA40 (by omega)]
    simp only [oL_s, nI_1]
    by_cases hw : R 2 i = who
    · rw [if_pos hw]
      refine hk _ ⟨rfl, fun s hs => ?_⟩
      dsimp only
      rw [b_or, bt_1sh (by omega) hs, g2 s hs]
      by_cases e : s = i
      · subst e; simp [hw]
      · by_cases e2 : s < i
        · simp [e, e2, show s < i + 1 by omega]
        · simp [e, e2, show ¬ s < i + 1 by omega]
    · rw [if_neg hw, or_z]
      refine hk _ ⟨rfl, fun s hs => ?_⟩
      dsimp only
      rw [g2 s hs]
      by_cases e : s = i
      · subst e; simp [hw]
      · by_cases e2 : s < i
        · simp [e2, show s < i + 1 by omega]
        · simp [e2, show ¬ s < i + 1 by omega]
  · rintro ⟨z1, z2⟩ k ⟨g1, g2⟩
    dsimp only at g1 g2 ⊢
    subst g1
    unfold b_X10_clausesOf_4
    rw [if_pos (by rw [nI_le_iff (by omega) (by omega)]; omega)]
    exact ⟨z1, rfl, g2⟩
theorem full_bt : ∀ cl, cl ≤ 10 → ∀ s, s < 32 → bt (((1 : Int32) <<< (nI cl &&& 31)) - 1) s = decide (s < cl) := by decide +kernel
theorem whereAll9 {c : Nat → Int32} {R : RW} {cl n : Nat} (h : SRR c R cl n) {q : Nat} (hq : q < 4) (who : Int32) : ∃ x, f_X1_whereAllHold (nI cl) c who (nI q) = some x ∧ ∀ i, i < 64 → bl x i = AL R (fun s => decide (who = 2) || decide (R 2 s = who)) (nI (64 * q + i)) cl := by
  obtain ⟨h1, h2, h3, h4, h5, h6⟩ := h
  unfold f_X1_whereAllHold L_X1_whereAllHold_7
  refine oF_P0 (σ := Int64 × Int32) (fun s z => z.2 = nI s ∧ ∀ i, i < 64 → bl z.1 i = AL R (fun s => decide (who = 2) || decide (R 2 s = who)) (nI (64 * q + i)) s) cl (fun r => ∃ x, r = some x ∧ ∀ i, i < 64 → bl x i = AL R (fun s => decide (who = 2) || decide (R 2 s = who)) (nI (64 * q + i)) cl) _ ⟨rfl, fun i hi => l_m1 i hi⟩ (by omega) ?_ ?_
  · rintro s ⟨z1, z2⟩ k hs ⟨g1, g2⟩ hk
    dsimp only at g1 g2 ⊢
    subst g1
    obtain ⟨c0, c1, c2, -, -, -, b1, b2⟩ := h4 s (by omega)
    obtain ⟨x, e1, e2⟩ := whereClause9 b1 b2 hq
    unfold b_X1_whereAllHold_7 f_X1_whereAllHold_32 f_X1_whereAllHold_53
    rw [if_neg (by rw [nI_le_iff (by omega) (by omega)]; omega)]
    simp only [cell0 c (show s < 40 by omega), cell1 c (show s < 40 by omega), cell2 c (show s < 40 by omega), oB1_s, c0, c1, c2, e1, oL_s, nI_1]
    by_cases w2 : who = 2
    · rw [if_pos w2]
      refine hk _ ⟨rfl, fun i hi => ?_⟩
      show bl (z1 &&& x) i = (AL _ _ _ s && (!(decide (who = 2) || decide (R 2 s = who)) || _))
      rw [l_and, g2 i hi, e2 i hi, decide_eq_true w2]; simp
    · rw [if_neg w2]
      by_cases w3 : R 2 s = who
      · rw [if_pos w3]
        refine hk _ ⟨rfl, fun i hi => ?_⟩
        show bl (z1 &&& x) i = (AL _ _ _ s && (!(decide (who = 2) || decide (R 2 s = who)) || _))
        rw [l_and, g2 i hi, e2 i hi, decide_eq_true w3, Bool.or_true]; simp
      · rw [if_neg w3]
        refine hk _ ⟨rfl, fun i hi => ?_⟩
        show bl z1 i = (AL _ _ _ s && (!(decide (who = 2) || decide (R 2 s = who)) || _))
        rw [g2 i hi, decide_eq_false w3, decide_eq_false w2]; simp
  · rintro ⟨z1, z2⟩ k ⟨g1, g2⟩
    dsimp only at g1 g2 ⊢
    subst g1
    unfold b_X1_whereAllHold_7
    rw [if_pos (by rw [nI_le_iff (by omega) (by omega)]; omega)]
    exact ⟨z1, rfl, g2⟩
