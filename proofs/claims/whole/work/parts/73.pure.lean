/-! the least set of clauses that no world bears -/
def lz (T : Nat) : Nat → Nat
  | 0 => 10
  | k + 1 => if T.testBit (9 - k) then 9 - k else lz T k
def rst (T : Nat) : Nat := T &&& (T - 1)
theorem le_low : ∀ T, T < 1024 → f_X1_lowestOf (nI T) = some (nI (lz T 10)) := by decide +kernel
theorem le_rst : ∀ T, 1 ≤ T → T < 1024 → (nI T &&& (nI T - 1)) = nI (rst T) := by
  intro T h1 h2
  exact (by decide +kernel : ∀ T, T < 1024 → 1 ≤ T → (nI T &&& (nI T - 1)) = nI (rst T)) T h2 h1
theorem le_bc : ∀ T, T < 1024 → f_J6_bitCount_0f7a4 (nI T) = some (nI (cN (fun s => T.testBit s) 10)) := by decide +kernel
theorem le_f4 : ∀ T, T < 1024 → 1 ≤ T → lz T 10 < 10 ∧ T.testBit (lz T 10) = true ∧ rst T < 1024 ∧ (rst T = 0 ∨ (lz (rst T) 10 < 10 ∧ (T - 1).testBit (lz (rst T) 10) = true ∧ ((T - 1) >>> (lz (rst T) 10)) <<< (lz (rst T) 10) = rst T)) ∧ (T >>> (lz T 10)) <<< (lz T 10) = T := by decide +kernel
theorem le_f5 : ∀ T, T < 1024 → 1 ≤ T → ∀ b, b < 10 → T.testBit b = (decide (b = lz T 10) || (rst T).testBit b) := by decide +kernel
theorem le_f6 : ∀ T, T < 1024 → 1 ≤ T → ∀ b, b < 10 → T.testBit b = true → b = lz T 10 ∨ ((T - 1).testBit b = true ∧ ((T - 1) >>> b) <<< b = (T >>> b) <<< b) := by decide +kernel
theorem bit_val (x : Int32) {l : Nat} (hl : l < 32) : ((x >>> (nI l &&& 31)) &&& 1) = bi (bt x l) := by
  apply b_ext
  intro i hi
  have h1 : ∀ k, k < 32 → bt 1 k = decide (k = 0) := by decide +kernel
  rw [b_and, h1 i hi, b_sshr l hl x hi]
  by_cases e : i = 0
  · subst e
    rw [if_pos (by omega)]
    cases h : bt x l
    · exact (b_0 0).symm
    · rw [show bi true = 1 from rfl, h1 0 (by decide)]; rfl
  · rw [decide_eq_false e, Bool.and_false]
    cases bt x l
    · exact (b_0 i).symm
    · show false = bt 1 i
      rw [h1 i hi, decide_eq_false e]
theorem bits10 (x : Int32) : f_X10_bits x = some (nI (cN (fun s => bt x s) 10)) := by
  unfold f_X10_bits L_X10_bits_4
  refine oF_run0 (fun i => (nI (cN (fun s => bt x s) i), nI i)) 10 _ rfl (by omega) ?_ ?_
  · intro i hi k
    dsimp only
    unfold b_X10_bits_4
    rw [if_neg (by rw [i10, nI_le_iff (by omega) (by omega)]; omega), oL_s, oL_s, bit_val _ (by omega), nI_1, cN]
    by_cases h : bt x i = true
    · rw [if_pos h, h]
      show k (nI _ + 1, _) = _
      rw [nI_1]
    · rw [if_neg h, (by simpa using h : bt x i = false)]
      show k (nI _ + 0, _) = _
      rw [add_z]; rfl
  · intro k
    dsimp only
    unfold b_X10_bits_4
    rw [if_pos (show (10 : Int32) ≤ nI 10 by decide)]
theorem bits10N {T : Nat} : f_X10_bits (nI T) = some (nI (cN (fun s => T.testBit s) 10)) := by
  rw [bits10, cN_congr (fun i hi => by rw [bt_nI, decide_eq_true (by omega), Bool.true_and])]
/-- no world bears the set T -/
def zer (R : RW) (cl T : Nat) : Bool := decide (cN (fun w => AL R (fun s => T.testBit s) (nI w) cl) 256 = 0)
def bcF : Option Nat → Nat
  | none => 11
  | some b => cN (fun s => b.testBit s) 10
def LB (R : RW) (cl : Nat) : Nat → Option Nat
  | 0 => none
  | k + 1 => if zer R cl (k + 1) && decide (cN (fun s => (k + 1).testBit s) 10 < bcF (LB R cl k)) then some (k + 1) else LB R cl k
def oV (o : Option Nat) : Int32 := match o with | none => -1 | some b => nI b
theorem LB_le (R : RW) (cl : Nat) : ∀ k b, LB R cl k = some b → b ≤ k := by
  intro k
  induction k with
  | zero => intro b h; exact absurd h (by simp [LB])
  | succ k ih =>
    intro b h
    rw [LB] at h
    split at h
    · injection h with h; omega
    · have := ih b h; omega
theorem worldsOf10N (R : RW) {cl : Nat} (hcl : cl ≤ 10) (T : Nat) : f_X10_worldsOf (nI cl) (R 0) (R 1) (nI T) = some (nI (cN (fun w => AL R (fun s => T.testBit s) (nI w) cl) 256)) := by
  rw [worldsOf10 R hcl, cN_congr (fun w _ => AL_congr (sel' := fun s => T.testBit s) (nI w) (fun s hs => by rw [bt_nI, decide_eq_true (by omega), Bool.true_and]))]
theorem one_shl : ∀ cl, cl ≤ 10 → ((1 : Int32) <<< (nI cl &&& 31)) = nI (2 ^ cl) := by decide +kernel
theorem pow_le10 {cl : Nat} (h : cl ≤ 10) : 1 ≤ 2 ^ cl ∧ 2 ^ cl ≤ 1024 := ⟨Nat.one_le_two_pow, Nat.pow_le_pow_right (n := 2) (by decide) h⟩
theorem cmp10 (n m : Nat) (hn : n ≤ 10) (hm : m ≤ 11) : (nI m ≤ nI n) ↔ ¬ n < m := by rw [nI_le_iff (by omega) (by omega)]; omega
theorem least10 (R : RW) {cl : Nat} (hcl : cl ≤ 10) : f_X10_least (nI cl) (R 0) (R 1) = some (oV (LB R cl (2 ^ cl - 1))) := by
  obtain ⟨hp1, hp2⟩ := pow_le10 hcl
  unfold f_X10_least L_X10_least_4
  refine oF_run0 (fun i => (oV (LB R cl i), nI (i + 1))) (2 ^ cl - 1) _ rfl (by omega) ?_ ?_
  · intro i hi k
    dsimp only
    unfold b_X10_least_4
    have hz : (nI (cN (fun w => AL R (fun s => (i + 1).testBit s) (nI w) cl) 256) = 0) ↔ zer R cl (i + 1) = true := by
      rw [i0, nI_inj (by have := cN_le (fun w => AL R (fun s => (i + 1).testBit s) (nI w) cl) 256; omega) (by omega)]
      unfold zer
      rw [decide_eq_true_iff]
    have h34 : ∀ s0 : Int32, f_X10_least_34 (nI cl) (R 0) (R 1) (oV (LB R cl i)) (nI (i + 1)) s0 k = if s0 = 0 then k (oV (LB R cl i), nI (i + 1 + 1)) else if zer R cl (i + 1) = true then k (nI (i + 1), nI (i + 1 + 1)) else k (oV (LB R cl i), nI (i + 1 + 1)) := by
      intro s0
      unfold f_X10_least_34 f_X10_least_51 f_X10_least_52
      rw [worldsOf10N R hcl, oB1_s]
      simp only [hz, oL_s, nI_1]
    rw [if_neg (by rw [one_shl cl hcl, nI_le_iff (by omega) (by omega)]; omega)]
    unfold f_X10_least_29
    rw [h34, h34, bits10N, oB1_s]
    have hc0 := cN_le (fun s => (i + 1).testBit s) 10
    cases hL : LB R cl i with
    | none =>
      rw [if_pos (show oV none < 0 by decide), if_neg (by decide), LB, hL, show bcF none = 11 from rfl]
      rw [decide_eq_true (show cN (fun s => (i + 1).testBit s) 10 < 11 by omega), Bool.and_true]
      by_cases z : zer R cl (i + 1) = true
      · rw [if_pos z, if_pos z]; rfl
      · rw [if_neg z, if_neg z]
    | some b =>
      have hb := LB_le R cl i b hL
      rw [if_neg (show ¬ oV (some b) < 0 from by show ¬ nI b < 0; rw [i0, nI_lt_iff (by omega) (by omega)]; omega)]
      show oB1 (f_X10_bits (nI b)) _ = _
      have hc1 := cN_le (fun s => b.testBit s) 10
      rw [bits10N, oB1_s, LB, hL, show bcF (some b) = cN (fun s => b.testBit s) 10 from rfl]
      by_cases hc : cN (fun s => (i + 1).testBit s) 10 < cN (fun s => b.testBit s) 10
      · rw [if_neg (by rw [cmp10 _ _ hc0 (by omega)]; exact not_not_intro hc), if_neg (by decide), decide_eq_true hc, Bool.and_true]
        by_cases z : zer R cl (i + 1) = true
        · rw [if_pos z, if_pos z]; rfl
        · rw [if_neg z, if_neg z]
      · rw [if_pos (by rw [cmp10 _ _ hc0 (by omega)]; exact hc), if_pos rfl, decide_eq_false hc, Bool.and_false, if_neg (by decide)]
  · intro k
    dsimp only
    unfold b_X10_least_4
    rw [if_pos (by rw [one_shl cl hcl, nI_le_iff (by omega) (by omega)]; omega)]
/-- the class's words of the clauses -/
def OC (oc : Nat → Int64) (R : RW) (cl : Nat) : Prop := ∀ s, s < cl → ∀ q, q < 4 → ∀ i, i < 64 → bl (oc (4 * s + q)) i = CH (R 0 s) (R 1 s) (nI (64 * q + i))
theorem updL_s (f : Nat → Int64) (k : Nat) (x : Int64) : vp_updL f k x k = x := if_pos rfl
theorem updL_n (f : Nat → Int64) {k j : Nat} (x : Int64) (h : j ≠ k) : vp_updL f k x j = f j := if_neg h
theorem readClauses12 {c : Nat → Int32} {R : RW} {cl n s : Nat} (h : SRR c R cl n) (hs : s < cl) (k2 : (Nat → Int64) × Int32 → Option ((Nat → Int64) × (Nat → Int64))) (oc : Nat → Int64) (ho : OC oc R s) : ∃ oc', L_X1_readClauses_12 c (nI s) k2 (oc, 0) = k2 (oc', nI (s + 1)) ∧ OC oc' R (s + 1) := by
  obtain ⟨h1, h2, h3, h4, h5, h6⟩ := h
  obtain ⟨c0, c1, c2, -, -, -, b1, b2⟩ := h4 s (by omega)
  unfold L_X1_readClauses_12
  refine oF_P0 (σ := (Nat → Int64) × Int32) (fun q z => z.2 = nI q ∧ OC z.1 R s ∧ ∀ q', q' < q → ∀ i, i < 64 → bl (z.1 (4 * s + q')) i = CH (R 0 s) (R 1 s) (nI (64 * q' + i))) 4 (fun r => ∃ oc', r = k2 (oc', nI (s + 1)) ∧ OC oc' R (s + 1)) _ ⟨rfl, ho, fun q' hq' => absurd hq' (by omega)⟩ (by omega) ?_ ?_
  · rintro q ⟨z1, z2⟩ k hq ⟨g1, g2, g3⟩ hk
    dsimp only at g1 g2 g3 ⊢
    subst g1
    obtain ⟨x, e1, e2⟩ := whereClause9 b1 b2 hq
    unfold b_X1_readClauses_12
    rw [if_neg (by rw [i4, nI_le_iff (by omega) (by omega)]; omega), cell0 c (by omega), oB1_s, cell1 c (by omega), oB1_s, c0, c1, e1, oB1_s, oA_n (4 * s + q) _ (by rw [i4, nI_mul, nI_add, Nat.mul_comm]) (by omega) (by decide), oL_s, oL_s, nI_1]
    refine hk _ ⟨rfl, fun s' hs' q' hq' i hi => ?_, fun q' hq' i hi => ?_⟩
    · dsimp only
      rw [updL_n _ _ (by omega)]; exact g2 s' hs' q' hq' i hi
    · dsimp only
      by_cases e : q' = q
      · subst e; rw [updL_s]; exact e2 i hi
      · rw [updL_n _ _ (by omega)]; exact g3 q' (by omega) i hi
  · rintro ⟨z1, z2⟩ k ⟨g1, g2, g3⟩
    dsimp only at g1 g2 g3 ⊢
    subst g1
    unfold b_X1_readClauses_12
    rw [if_pos (show (4 : Int32) ≤ nI 4 by decide), oL_s, nI_1]
    refine ⟨z1, rfl, fun s' hs' q' hq' i hi => ?_⟩
    by_cases e : s' = s
    · subst e; exact g3 q' hq' i hi
    · exact g2 s' (by omega) q' hq' i hi
theorem readClauses9 {c : Nat → Int32} {R : RW} {cl n : Nat} (h : SRR c R cl n) (rows oc : Nat → Int64) : ∃ rows' oc', f_X1_readClauses rows oc (nI cl) c = some (rows', oc') ∧ OC oc' R cl ∧ ∀ q, q < 4 → rows' (40 + q) = -1 := by
  have hcl : cl ≤ 10 := h.1
  unfold f_X1_readClauses L_X1_readClauses_2
  refine oF_P0 (σ := (Nat → Int64) × Int32) (fun s z => z.2 = nI s ∧ OC z.1 R s) cl (fun (r : Option ((Nat → Int64) × (Nat → Int64))) => ∃ rows' oc', r = some (rows', oc') ∧ OC oc' R cl ∧ ∀ q, q < 4 → rows' (40 + q) = -1) _ ⟨rfl, fun s hs => absurd hs (by omega)⟩ (by omega) ?_ ?_
  · rintro s ⟨z1, z2⟩ k hs ⟨g1, g2⟩ hk
    dsimp only at g1 g2 ⊢
    subst g1
    unfold b_X1_readClauses_2
    rw [if_neg (by rw [nI_le_iff (by omega) (by omega)]; omega)]
    obtain ⟨oc', e1, e2⟩ := readClauses12 h hs k z1 g2
    rw [e1]
    exact hk _ ⟨rfl, e2⟩
  · rintro ⟨z1, z2⟩ k ⟨g1, g2⟩
    dsimp only at g1 g2 ⊢
    subst g1
    unfold b_X1_readClauses_2
    rw [if_pos (by rw [nI_le_iff (by omega) (by omega)]; omega)]
    unfold L_X1_readClauses_57
    refine oF_P0 (σ := (Nat → Int64) × Int32) (fun q z => z.2 = nI q ∧ ∀ q', q' < q → z.1 (40 + q') = -1) 4 (fun (r : Option ((Nat → Int64) × (Nat → Int64))) => ∃ rows' oc', r = some (rows', oc') ∧ OC oc' R cl ∧ ∀ q, q < 4 → rows' (40 + q) = -1) _ ⟨rfl, fun q' hq' => absurd hq' (by omega)⟩ (by omega) ?_ ?_
    · rintro q ⟨y1, y2⟩ k hq ⟨g1, g3⟩ hk
      dsimp only at g1 g3 ⊢
      subst g1
      unfold b_X1_readClauses_57
      rw [if_neg (by rw [i4, nI_le_iff (by omega) (by omega)]; omega), oA_n (40 + q) _ (by rw [i40, nI_add]) (by omega) (by decide), oL_s, oL_s, nI_1]
      refine hk _ ⟨rfl, fun q' hq' => ?_⟩
      dsimp only
      by_cases e : q' = q
      · subst e; exact updL_s _ _ _
      · rw [updL_n _ _ (by omega)]; exact g3 q' (by omega)
    · rintro ⟨y1, y2⟩ k ⟨g1, g3⟩
      dsimp only at g1 g3 ⊢
      subst g1
      unfold b_X1_readClauses_57
      rw [if_pos (show (4 : Int32) ≤ nI 4 by decide)]
      exact ⟨y1, z1, rfl, g2, g3⟩
theorem AL_iff (R : RW) (sel : Nat → Bool) (w : Int32) : ∀ k, AL R sel w k = true ↔ ∀ s, s < k → sel s = true → CH (R 0 s) (R 1 s) w = true := by
  intro k
  induction k with
  | zero => simp [AL]
  | succ k ih =>
    rw [AL, Bool.and_eq_true, ih]
    constructor
    · rintro ⟨h1, h2⟩ s hs hh
      by_cases e : s = k
      · subst e; rw [hh] at h2; simpa using h2
      · exact h1 s (by omega) hh
    · intro h
      refine ⟨fun s hs hh => h s (by omega) hh, ?_⟩
      cases hk : sel k
      · rfl
      · rw [h k (by omega) hk]; rfl
theorem AL_low {R : RW} {T cl : Nat} (hcl : cl ≤ 10) (h1 : 1 ≤ T) (h2 : T < 2 ^ cl) (w : Int32) : lz T 10 < cl ∧ AL R (fun s => T.testBit s) w cl = (AL R (fun s => (rst T).testBit s) w cl && CH (R 0 (lz T 10)) (R 1 (lz T 10)) w) := by
  have hp := pow_le10 hcl
  obtain ⟨f1, f2, f3, f4, f5⟩ := le_f4 T (by omega) h1
  have hl : lz T 10 < cl := by
    rcases Nat.lt_or_ge (lz T 10) cl with h | h
    · exact h
    · have := Nat.testBit_lt_two_pow (Nat.lt_of_lt_of_le h2 (Nat.pow_le_pow_right (n := 2) (by decide) h))
      rw [this] at f2
      exact absurd f2 (by decide)
  refine ⟨hl, ?_⟩
  rw [Bool.eq_iff_iff, Bool.and_eq_true, AL_iff, AL_iff]
  constructor
  · intro h
    refine ⟨fun s hs hh => h s hs ?_, h _ hl f2⟩
    rw [le_f5 T (by omega) h1 s (by omega), hh, Bool.or_true]
  · rintro ⟨g1, g2⟩ s hs hh
    rw [le_f5 T (by omega) h1 s (by omega), Bool.or_eq_true, decide_eq_true_iff] at hh
    rcases hh with rfl | hh
    · exact g2
    · exact g1 s hs hh
/-- the class's rows, M seen -/
def RI (rows : Nat → Int64) (R : RW) (cl M : Nat) : Prop := (∀ q, q < 4 → rows (40 + q) = -1) ∧ ∀ b, b < 10 → M.testBit b = true → ∀ q, q < 4 → ∀ i, i < 64 → bl (rows (4 * b + q)) i = AL R (fun s => ((M >>> b) <<< b).testBit s) (nI (64 * q + i)) cl
theorem fillRow9 {rows oc : Nat → Int64} {R : RW} {cl T : Nat} (hcl : cl ≤ 10) (h1 : 1 ≤ T) (h2 : T < 2 ^ cl) (ho : OC oc R cl) (hr : RI rows R cl (T - 1)) : ∃ rows', f_X1_fillRow rows oc (nI T) = some (bi (zer R cl T), rows') ∧ RI rows' R cl T := by
  have hp := pow_le10 hcl
  obtain ⟨f1, f2, f3, f4, f5⟩ := le_f4 T (by omega) h1
  have hl := fun w => AL_low (R := R) hcl h1 h2 w
  have hlc := (hl 0).1
  have hl3 : lz (rst T) 10 ≤ 10 := by
    rcases f4 with h | h
    · rw [h]; decide
    · omega
  have hne : lz T 10 ≠ lz (rst T) 10 := by
    have := le_f5 T (by omega) h1
    exact (by decide +kernel : ∀ T, T < 1024 → 1 ≤ T → lz T 10 ≠ lz (rst T) 10) T (by omega) h1
  have hrow : ∀ q, q < 4 → ∀ i, i < 64 → bl (rows (4 * lz (rst T) 10 + q)) i = AL R (fun s => (rst T).testBit s) (nI (64 * q + i)) cl := by
    intro q hq i hi
    rcases f4 with h | ⟨g1, g2, g3⟩
    · rw [h, show lz 0 10 = 10 from rfl, hr.1 q hq, l_m1 i hi]
      symm
      rw [AL_iff]
      intro s _ hh
      rw [Nat.zero_testBit] at hh
      exact absurd hh (by decide)
    · rw [hr.2 _ g1 g2 q hq i hi, g3]
  unfold f_X1_fillRow
  rw [le_low T (by omega), oB1_s, le_rst T h1 (by omega), le_low _ f3, oB1_s]
  unfold L_X1_fillRow_20
  refine oF_P0 (σ := (Nat → Int64) × Int64 × Int32) (fun q z => z.2.2 = nI q ∧ (∀ j, (j < 4 * lz T 10 ∨ 4 * lz T 10 + 4 ≤ j) → z.1 j = rows j) ∧ (∀ q', q' < q → ∀ i, i < 64 → bl (z.1 (4 * lz T 10 + q')) i = AL R (fun s => T.testBit s) (nI (64 * q' + i)) cl) ∧ (z.2.1 = 0 ↔ ∀ w, w < 64 * q → AL R (fun s => T.testBit s) (nI w) cl = false)) 4 (fun r => ∃ rows', r = some (bi (zer R cl T), rows') ∧ RI rows' R cl T) _ ⟨rfl, fun j _ => rfl, fun q' hq' => absurd hq' (by omega), ⟨fun _ w hw => absurd hw (by omega), fun _ => rfl⟩⟩ (by omega) ?_ ?_
  · rintro q ⟨z1, z2, z3⟩ k hq ⟨g1, g2, g3, g4⟩ hk
    dsimp only at g1 g2 g3 g4 ⊢
    subst g1
    unfold b_X1_fillRow_20
    have hx : ∀ i, i < 64 → bl (z1 (4 * lz (rst T) 10 + q) &&& oc (4 * lz T 10 + q)) i = AL R (fun s => T.testBit s) (nI (64 * q + i)) cl := by
      intro i hi
      rw [l_and, g2 _ (by omega), hrow q hq i hi, ho _ hlc q hq i hi, (hl _).2]
    rw [if_neg (by rw [i4, nI_le_iff (by omega) (by omega)]; omega), oA_n (4 * lz (rst T) 10 + q) _ (by rw [i4, nI_mul, nI_add, Nat.mul_comm]) (by omega) (by decide), oA_n (4 * lz T 10 + q) _ (by rw [i4, nI_mul, nI_add, Nat.mul_comm]) (by omega) (by decide), oL_s, oA_n (4 * lz T 10 + q) _ (by rw [i4, nI_mul, nI_add, Nat.mul_comm]) (by omega) (by decide), oL_s, oL_s, oL_s, nI_1]
    refine hk _ ⟨rfl, fun j hj => ?_, fun q' hq' i hi => ?_, ?_⟩
    · dsimp only
      rw [updL_n _ _ (by omega)]; exact g2 j hj
    · dsimp only
      by_cases e : q' = q
      · subst e; rw [updL_s]; exact hx i hi
      · rw [updL_n _ _ (by omega)]; exact g3 q' (by omega) i hi
    · dsimp only
      generalize z1 (4 * lz (rst T) 10 + q) &&& oc (4 * lz T 10 + q) = x at hx
      constructor
      · intro hz w hw
        have hz2 : z2 = 0 ∧ x = 0 := by
          constructor
          · apply l_ext; intro i hi
            have : bl (z2 ||| x) i = false := by rw [hz]; exact l_0 i
            rw [l_or, Bool.or_eq_false_iff] at this
            rw [this.1]; exact (l_0 i).symm
          · apply l_ext; intro i hi
            have : bl (z2 ||| x) i = false := by rw [hz]; exact l_0 i
            rw [l_or, Bool.or_eq_false_iff] at this
            rw [this.2]; exact (l_0 i).symm
        rcases Nat.lt_or_ge w (64 * q) with hlt | hge
        · exact g4.mp hz2.1 w hlt
        · have := hx (w - 64 * q) (by omega)
          rw [hz2.2, l_0, show 64 * q + (w - 64 * q) = w by omega] at this
          exact this.symm
      · intro hz
        apply l_ext
        intro i hi
        rw [l_or, g4.mpr (fun w hw => hz w (by omega)), l_0, Bool.false_or, hx i hi]
        exact hz _ (by omega)
  · rintro ⟨z1, z2, z3⟩ k ⟨g1, g2, g3, g4⟩
    dsimp only at g1 g2 g3 g4 ⊢
    subst g1
    unfold b_X1_fillRow_20
    rw [if_pos (show (4 : Int32) ≤ nI 4 by decide)]
    have hz : z2 = 0 ↔ zer R cl T = true := by
      unfold zer
      rw [g4, decide_eq_true_iff]
      have key : ∀ (P : Nat → Bool) k, (∀ w, w < k → P w = false) ↔ cN P k = 0 := by
        intro P k
        induction k with
        | zero => simp [cN]
        | succ k ih =>
          rw [cN]
          constructor
          · intro h
            rw [ih.mp (fun w hw => h w (by omega)), h k (by omega)]; rfl
          · intro h w hw
            have h0 : cN P k = 0 := by omega
            by_cases e : w = k
            · subst e
              cases hP : P w
              · rfl
              · rw [hP] at h; simp at h
            · exact ih.mpr h0 w (by omega)
      exact key _ _
    refine ⟨z1, ?_, ⟨fun q hq => ?_, fun b hb hbit q hq i hi => ?_⟩⟩
    · simp only [lg_cmp_eq, hz]
      cases zer R cl T <;> rfl
    · rw [g2 _ (by omega)]; exact hr.1 q hq
    · rcases le_f6 T (by omega) h1 b hb hbit with rfl | ⟨e1, e2⟩
      · rw [g3 q hq i hi, f5]
      · by_cases e : b = lz T 10
        · subst e; rw [g3 q hq i hi, f5]
        · rw [g2 _ (by omega), hr.2 b hb e1 q hq i hi, e2]
theorem leastOf9 {c : Nat → Int32} {R : RW} {cl n : Nat} (h : SRR c R cl n) (rows oc : Nat → Int64) : ∃ rows' oc', f_X1_leastOf rows oc (nI cl) c = some (oV (LB R cl (2 ^ cl - 1)), rows', oc') := by
  have hcl : cl ≤ 10 := h.1
  obtain ⟨hp1, hp2⟩ := pow_le10 hcl
  obtain ⟨r1, oc1, e1, e2, e3⟩ := readClauses9 h rows oc
  unfold f_X1_leastOf
  rw [e1, oB2_s]
  unfold L_X1_leastOf_13
  refine oF_P0 (σ := (Nat → Int64) × Int32 × Int32 × Int32) (fun i z => RI z.1 R cl i ∧ z.2.1 = oV (LB R cl i) ∧ z.2.2.1 = nI (bcF (LB R cl i)) ∧ z.2.2.2 = nI (i + 1)) (2 ^ cl - 1) (fun r => ∃ rows' oc', r = some (oV (LB R cl (2 ^ cl - 1)), rows', oc')) _ ⟨⟨e3, fun b hb hbit => by rw [Nat.zero_testBit] at hbit; exact absurd hbit (by decide)⟩, rfl, rfl, rfl⟩ (by omega) ?_ ?_
  · rintro i ⟨z1, z2, z3, z4⟩ k hi ⟨g1, g2, g3, g4⟩ hk
    dsimp only at g1 g2 g3 g4 ⊢
    subst g2; subst g3; subst g4
    unfold b_X1_leastOf_13 f_X1_leastOf_55
    rw [if_neg (by rw [one_shl cl hcl, nI_le_iff (by omega) (by omega)]; omega)]
    obtain ⟨r2, e4, e5⟩ := fillRow9 (T := i + 1) hcl (by omega) (by omega) e2 g1
    rw [e4, oB2_s, le_bc _ (by omega), oB1_s, oB1_s]
    simp only [bi_0, oL_s, nI_1]
    have hc0 := cN_le (fun s => (i + 1).testBit s) 10
    have hc1 : bcF (LB R cl i) ≤ 11 := by
      cases LB R cl i with
      | none => exact Nat.le_refl _
      | some b => have := cN_le (fun s => b.testBit s) 10; show cN (fun s => b.testBit s) 10 ≤ 11; omega
    have hLB : LB R cl (i + 1) = if zer R cl (i + 1) && decide (cN (fun s => (i + 1).testBit s) 10 < bcF (LB R cl i)) then some (i + 1) else LB R cl i := rfl
    cases z : zer R cl (i + 1)
    · rw [if_pos rfl]
      rw [z, Bool.false_and, if_neg (by decide)] at hLB
      exact hk _ ⟨e5, by rw [hLB], by rw [hLB], rfl⟩
    · rw [if_neg (by decide)]
      rw [z, Bool.true_and] at hLB
      by_cases hc : cN (fun s => (i + 1).testBit s) 10 < bcF (LB R cl i)
      · rw [if_neg (by rw [cmp10 _ _ hc0 hc1]; exact not_not_intro hc)]
        rw [decide_eq_true hc, if_pos rfl] at hLB
        exact hk _ ⟨e5, by rw [hLB]; rfl, by rw [hLB]; rfl, rfl⟩
      · rw [if_pos (by rw [cmp10 _ _ hc0 hc1]; exact hc)]
        rw [decide_eq_false hc, if_neg (by decide)] at hLB
        exact hk _ ⟨e5, by rw [hLB], by rw [hLB], rfl⟩
  · rintro ⟨z1, z2, z3, z4⟩ k ⟨g1, g2, g3, g4⟩
    dsimp only at g1 g2 g3 g4 ⊢
    subst g2; subst g3; subst g4
    unfold b_X1_leastOf_13
    rw [if_pos (by rw [one_shl cl hcl, nI_le_iff (by omega) (by omega)]; omega)]
    exact ⟨_, _, rfl⟩
theorem told_ok {c : Nat → Int32} {R : RW} {cl n : Nat} (h : SRR c R cl n) (tl mc wc : Int32) (rows oc : Nat → Int64) (x : Int32) : ∃ r rows' oc', f_X9_told tl mc rows oc wc (nI cl) (nI n) (lo (R 0) (R 1) (R 2) 0 cl) (lo (R 0) (R 1) (R 2) 1 cl) c x = some (r, rows', oc') ∧ f_X10_told (nI cl) (nI n) tl mc wc (R 0) (R 1) (R 2) x = some r := by
  have hh := h
  obtain ⟨h1, h2, h3, h4, h5, h6⟩ := h
  obtain ⟨e, e1, e2, e3⟩ := first_ex (R 0) (R 1) n
  have hce : ∀ s, s < n → (c (8 * s) ||| c (8 * s + 1)) = (R 0 s ||| R 1 s) := fun s hs => by rw [(h4 s hs).1, (h4 s hs).2.1]
  obtain ⟨t1, r6, t2, t3⟩ := told456 hh
  obtain ⟨s4, r4, a1, a2, a3⟩ := t1 0 (Or.inl rfl)
  obtain ⟨s5, r5, b1, b2, b3⟩ := t1 1 (Or.inr rfl)
  obtain ⟨rows', oc', l1⟩ := leastOf9 hh rows oc
  unfold f_X9_told f_X10_told f_X5_sharedLetters
  rw [oL_s, firstEmpty10 _ _ (by omega) e1 e2 e3, firstEmpty9 c (by omega) e1 (fun i hi => by rw [hce i (by omega)]; exact e2 i hi) (fun hi => by rw [hce e hi]; exact e3 hi), shared_eq _ _ _ (by omega), a1, b1]
  simp only [oB1_s, a2, a3, b2, b3, t2, t3, l1, oB3_s, least10 R h1]
  by_cases x0 : x = 0
  · rw [if_pos x0, if_pos x0]; exact ⟨_, _, _, rfl, rfl⟩
  rw [if_neg x0, if_neg x0]
  by_cases x1 : x = 1
  · rw [if_pos x1, if_pos x1]; exact ⟨_, _, _, rfl, rfl⟩
  rw [if_neg x1, if_neg x1]
  by_cases x2 : x = 2
  · rw [if_pos x2, if_pos x2]; exact ⟨_, _, _, rfl, rfl⟩
  rw [if_neg x2, if_neg x2]
  by_cases x3 : x = 3
  · rw [if_pos x3, if_pos x3]; exact ⟨_, _, _, rfl, rfl⟩
  rw [if_neg x3, if_neg x3]
  by_cases x4 : x = 4
  · rw [if_pos x4, if_pos x4]; exact ⟨_, _, _, rfl, rfl⟩
  rw [if_neg x4, if_neg x4]
  by_cases x5 : x = 5
  · rw [if_pos x5, if_pos x5]; exact ⟨_, _, _, rfl, rfl⟩
  rw [if_neg x5, if_neg x5]
  by_cases x6 : x = 6
  · rw [if_pos x6, if_pos x6]; exact ⟨_, _, _, rfl, rfl⟩
  rw [if_neg x6, if_neg x6]
  by_cases x7 : x = 7
  · rw [if_pos x7, if_pos x7]; exact ⟨_, _, _, rfl, rfl⟩
  rw [if_neg x7, if_neg x7]
  by_cases x8 : x = 8
  · rw [if_pos x8, if_pos x8]; exact ⟨_, _, _, rfl, rfl⟩
  rw [if_neg x8, if_neg x8]
  by_cases x9 : x = 9
  · rw [if_pos x9, if_pos x9]; exact ⟨_, _, _, rfl, rfl⟩
  rw [if_neg x9, if_neg x9]
  by_cases x10 : x = 10
  · rw [if_pos x10, if_pos x10]; exact ⟨_, _, _, rfl, rfl⟩
  rw [if_neg x10, if_neg x10]
  exact ⟨_, _, _, rfl, rfl⟩
