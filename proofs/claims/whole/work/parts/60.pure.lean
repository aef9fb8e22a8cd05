/-! Pure rows: loops, numbers. -/
theorem oL_s {α β : Type} (a : α) (k : α → Option β) : oL a k = k a := rfl
theorem oB0_s {β : Type} (k : Option β) : oB0 (some ()) k = k := rfl
theorem oB1_s {α β : Type} (x : α) (k : α → Option β) : oB1 (some x) k = k x := rfl
theorem oB2_s {α₁ α₂ β : Type} (x₁ : α₁) (x₂ : α₂) (k : α₁ → α₂ → Option β) : oB2 (some (x₁, x₂)) k = k x₁ x₂ := rfl
theorem oB3_s {α₁ α₂ α₃ β : Type} (x₁ : α₁) (x₂ : α₂) (x₃ : α₃) (k : α₁ → α₂ → α₃ → Option β) : oB3 (some (x₁, x₂, x₃)) k = k x₁ x₂ x₃ := rfl
theorem oB4_s {α₁ α₂ α₃ α₄ β : Type} (x₁ : α₁) (x₂ : α₂) (x₃ : α₃) (x₄ : α₄) (k : α₁ → α₂ → α₃ → α₄ → Option β) : oB4 (some (x₁, x₂, x₃, x₄)) k = k x₁ x₂ x₃ x₄ := rfl
theorem oB5_s {α₁ α₂ α₃ α₄ α₅ β : Type} (x₁ : α₁) (x₂ : α₂) (x₃ : α₃) (x₄ : α₄) (x₅ : α₅) (k : α₁ → α₂ → α₃ → α₄ → α₅ → Option β) : oB5 (some (x₁, x₂, x₃, x₄, x₅)) k = k x₁ x₂ x₃ x₄ x₅ := rfl
theorem oA_n {β : Type} {i : Int32} {n : Nat} (j : Nat) (k : Nat → Option β) (hi : i = nI j) (hj : j < n) (hn : n < 2 ^ 31) : oA i n k = k j := by
  subst hi
  unfold oA
  rw [nI_clamp (by omega), if_neg]
  intro h
  rcases h with h | h
  · exact nI_pos (by omega) h
  · omega
theorem oZ_0 {β : Type} (k : Option β) : oZ 0 k = k := rfl
theorem oZ_1 {β : Type} (k : Option β) : oZ 1 k = k := rfl
theorem oZ_b {β : Type} (c : Bool) (k : Option β) : oZ (if c then 1 else 0) k = k := by cases c <;> rfl
theorem oG_s {β : Type} {c : Prop} [Decidable c] (h : c) (k : Option β) : oG c k = k := by unfold oG; rw [if_pos h]
theorem xN_big : 150000 < xN := by unfold xN; omega
theorem oF_succ {σ β : Type} (F : (σ → Option β) → σ → Option β) (n : Nat) (s : σ) : oF F (n + 1) s = F (oF F n) s := rfl
/-- a loop that goes through the states st 0, .., st N and ends there -/
theorem oF_run {σ β : Type} {F : (σ → Option β) → σ → Option β} (st : Nat → σ) (N : Nat) {r : Option β} (hs : ∀ i, i < N → ∀ k, F k (st i) = k (st (i + 1))) (he : ∀ k, F k (st N) = r) : ∀ (d i n : Nat), i + d = N → d < n → oF F n (st i) = r := by
  intro d
  induction d with
  | zero =>
    intro i n hi hn
    obtain ⟨n, rfl⟩ : ∃ q, n = q + 1 := ⟨n - 1, by omega⟩
    rw [oF_succ]
    have : i = N := by omega
    rw [this]
    exact he _
  | succ d ih =>
    intro i n hi hn
    obtain ⟨n, rfl⟩ : ∃ q, n = q + 1 := ⟨n - 1, by omega⟩
    rw [oF_succ, hs i (by omega)]
    exact ih (i + 1) n (by omega) (by omega)
theorem oF_run0 {σ β : Type} {F : (σ → Option β) → σ → Option β} (st : Nat → σ) (N : Nat) {r : Option β} (s0 : σ) (h0 : st 0 = s0) (hN : N < 150000) (hs : ∀ i, i < N → ∀ k, F k (st i) = k (st (i + 1))) (he : ∀ k, F k (st N) = r) : oF F xN s0 = r := by
  rw [← h0]
  exact oF_run st N hs he N 0 xN (by omega) (by have := xN_big; omega)
/-- a loop with an invariant, and any claim P of its result -/
theorem oF_P {σ β : Type} {F : (σ → Option β) → σ → Option β} (I : Nat → σ → Prop) (N : Nat) (P : Option β → Prop) (hs : ∀ i s k, i < N → I i s → (∀ s', I (i + 1) s' → P (k s')) → P (F k s)) (he : ∀ s k, I N s → P (F k s)) : ∀ (d i n : Nat) (s : σ), i + d = N → d < n → I i s → P (oF F n s) := by
  intro d
  induction d with
  | zero =>
    intro i n s hi hn h
    obtain ⟨n, rfl⟩ : ∃ q, n = q + 1 := ⟨n - 1, by omega⟩
    rw [oF_succ]
    have : i = N := by omega
    subst this
    exact he _ _ h
  | succ d ih =>
    intro i n s hi hn h
    obtain ⟨n, rfl⟩ : ∃ q, n = q + 1 := ⟨n - 1, by omega⟩
    rw [oF_succ]
    exact hs i s _ (by omega) h (fun s' h' => ih (i + 1) n s' (by omega) (by omega) h')
theorem oF_P0 {σ β : Type} {F : (σ → Option β) → σ → Option β} (I : Nat → σ → Prop) (N : Nat) (P : Option β → Prop) (s : σ) (h0 : I 0 s) (hN : N < 150000) (hs : ∀ i s k, i < N → I i s → (∀ s', I (i + 1) s' → P (k s')) → P (F k s)) (he : ∀ s k, I N s → P (F k s)) : P (oF F xN s) :=
  oF_P I N P hs he N 0 xN s (by omega) (by have := xN_big; omega) h0
theorem li (n : Nat) : (OfNat.ofNat n : Int32) = nI n := rfl
theorem nI_mul (a b : Nat) : nI a * nI b = nI (a * b) := pk_mul a b
theorem nI_inj {a b : Nat} (ha : a < 2 ^ 31) (hb : b < 2 ^ 31) : nI a = nI b ↔ a = b := nI_eq ha hb
theorem nI_lt_iff {a b : Nat} (ha : a < 2 ^ 31) (hb : b < 2 ^ 31) : nI a < nI b ↔ a < b := nI_ltI ha hb
theorem nI_le_iff {a b : Nat} (ha : a < 2 ^ 31) (hb : b < 2 ^ 31) : nI a ≤ nI b ↔ a ≤ b := nI_leI ha hb
theorem nI_ne_m1 {a : Nat} (ha : a < 2 ^ 31) : nI a ≠ -1 := by
  intro h
  have h2 : (nI a).toInt = (-1 : Int32).toInt := by rw [h]
  rw [nI_toInt ha] at h2
  have : (-1 : Int32).toInt = -1 := by decide
  omega
theorem upd_s (f : Nat → Int32) (k : Nat) (x : Int32) : upd f k x k = x := by simp [upd]
theorem upd_n (f : Nat → Int32) {k j : Nat} (x : Int32) (h : j ≠ k) : upd f k x j = f j := by simp [upd, h]
/-- an int's value among the numbers, or not -/
theorem i_cases (x : Int32) (n : Nat) (hn : n < 2 ^ 31) : (∃ j, j < n ∧ x = nI j) ∨ (x < 0 ∨ nI n ≤ x) := by
  rcases pk_ix x hn with h | h | h
  · exact Or.inr (Or.inl h)
  · exact Or.inr (Or.inr h)
  · exact Or.inl h
theorem a_and_mask : ∀ k : Nat, k < 32 → (nI k &&& 31) = nI k := by decide
def bt (x : Int32) (i : Nat) : Bool := x.toBitVec.getLsbD i
theorem b_ext {x y : Int32} (h : ∀ i, i < 32 → bt x i = bt y i) : x = y := Int32.toBitVec_inj.mp (BitVec.eq_of_getLsbD_eq (fun i hi => h i hi))
theorem b_or (x y : Int32) (i : Nat) : bt (x ||| y) i = (bt x i || bt y i) := by unfold bt; rw [Int32.toBitVec_or, BitVec.getLsbD_or]
theorem b_and (x y : Int32) (i : Nat) : bt (x &&& y) i = (bt x i && bt y i) := by unfold bt; rw [Int32.toBitVec_and, BitVec.getLsbD_and]
theorem b_xor (x y : Int32) (i : Nat) : bt (x ^^^ y) i = (bt x i ^^ bt y i) := by unfold bt; rw [Int32.toBitVec_xor, BitVec.getLsbD_xor]
theorem b_big {x : Int32} {i : Nat} (h : 32 ≤ i) : bt x i = false := BitVec.getLsbD_of_ge _ _ h
theorem b_255 (i : Nat) : bt 255 i = decide (i < 8) := by
  rcases Nat.lt_or_ge i 32 with h | h
  · exact (by decide +kernel : ∀ i, i < 32 → bt 255 i = decide (i < 8)) i h
  · rw [b_big h, decide_eq_false (by omega)]
theorem b_65535 (i : Nat) : bt 65535 i = decide (i < 16) := by
  rcases Nat.lt_or_ge i 32 with h | h
  · exact (by decide +kernel : ∀ i, i < 32 → bt 65535 i = decide (i < 16)) i h
  · rw [b_big h, decide_eq_false (by omega)]
theorem b_m1 : ∀ i, i < 32 → bt (-1) i = true := by decide +kernel
theorem b_0 (i : Nat) : bt 0 i = false := BitVec.getLsbD_zero
theorem s_l : ∀ n, n < 32 → ((nI n &&& 31).toBitVec.smod 32).toNat = n := by decide +kernel
theorem s_u : ∀ n, n < 32 → (((nI n).toUInt32 &&& Int32.toUInt32 31).toBitVec % 32).toNat = n := by decide +kernel
theorem b_shl (n : Nat) (hn : n < 32) (x : Int32) {i : Nat} (hi : i < 32) : bt (x <<< (nI n &&& 31)) i = (decide (n ≤ i) && bt x (i - n)) := by
  unfold bt
  rw [Int32.toBitVec_shiftLeft]
  show (x.toBitVec <<< ((nI n &&& 31).toBitVec.smod 32).toNat).getLsbD i = _
  rw [s_l n hn, BitVec.getLsbD_shiftLeft]
  rcases Nat.lt_or_ge i n with h | h
  · simp [h, Nat.not_le.mpr h]
  · simp [hi, h, Nat.not_lt.mpr h]
theorem b_ushr (n : Nat) (hn : n < 32) (x : Int32) (i : Nat) : bt ((x.toUInt32 >>> ((nI n).toUInt32 &&& Int32.toUInt32 31)).toInt32) i = bt x (n + i) := by
  show (x.toUInt32 >>> ((nI n).toUInt32 &&& Int32.toUInt32 31)).toBitVec.getLsbD i = x.toUInt32.toBitVec.getLsbD (n + i)
  rw [UInt32.toBitVec_shiftRight]
  show (x.toUInt32.toBitVec >>> (((nI n).toUInt32 &&& Int32.toUInt32 31).toBitVec % 32).toNat).getLsbD i = _
  rw [s_u n hn, BitVec.getLsbD_ushiftRight]
theorem b_sshr (n : Nat) (hn : n < 32) (x : Int32) {i : Nat} (hi : i < 32) : bt (x >>> (nI n &&& 31)) i = if n + i < 32 then bt x (n + i) else bt x 31 := by
  unfold bt
  rw [Int32.toBitVec_shiftRight]
  show (x.toBitVec.sshiftRight ((nI n &&& 31).toBitVec.smod 32).toNat).getLsbD i = _
  rw [s_l n hn, BitVec.getLsbD_sshiftRight, BitVec.msb_eq_getLsbD_last]
  simp [hi]
theorem fa_lt (a b : Int32) : a < b ↔ a.toInt < b.toInt := Int32.lt_iff_toInt_lt
theorem fa_le (a b : Int32) : a ≤ b ↔ a.toInt ≤ b.toInt := Int32.le_iff_toInt_le
theorem fa_eq (a b : Int32) : a = b ↔ a.toInt = b.toInt := Int32.toInt_inj.symm
theorem fa_lt64 (a b : Int64) : a < b ↔ a.toInt < b.toInt := Int64.lt_iff_toInt_lt
theorem fa_le64 (a b : Int64) : a ≤ b ↔ a.toInt ≤ b.toInt := Int64.le_iff_toInt_le
theorem fa_eq64 (a b : Int64) : a = b ↔ a.toInt = b.toInt := Int64.toInt_inj.symm
theorem fa_wide_lt (a b : Int32) : a.toInt64 < b.toInt64 ↔ a < b := by rw [fa_lt64, fa_lt, Int32.toInt_toInt64, Int32.toInt_toInt64]
theorem fa_wide_le (a b : Int32) : a.toInt64 ≤ b.toInt64 ↔ a ≤ b := by rw [fa_le64, fa_le, Int32.toInt_toInt64, Int32.toInt_toInt64]
theorem fa_wide_eq (a b : Int32) : a.toInt64 = b.toInt64 ↔ a = b := by rw [fa_eq64, fa_eq, Int32.toInt_toInt64, Int32.toInt_toInt64]
/-! argument checks; the steps' own functions -/
theorem i0 : (0 : Int32) = nI 0 := rfl
theorem i1 : (1 : Int32) = nI 1 := rfl
theorem i2 : (2 : Int32) = nI 2 := rfl
theorem i3 : (3 : Int32) = nI 3 := rfl
theorem i4 : (4 : Int32) = nI 4 := rfl
theorem i5 : (5 : Int32) = nI 5 := rfl
theorem i6 : (6 : Int32) = nI 6 := rfl
theorem i7 : (7 : Int32) = nI 7 := rfl
theorem i8 : (8 : Int32) = nI 8 := rfl
theorem i10 : (10 : Int32) = nI 10 := rfl
theorem i30 : (30 : Int32) = nI 30 := rfl
theorem i32 : (32 : Int32) = nI 32 := rfl
theorem i40 : (40 : Int32) = nI 40 := rfl
theorem i240 : (240 : Int32) = nI 240 := rfl
theorem i255 : (255 : Int32) = nI 255 := rfl
theorem i256 : (256 : Int32) = nI 256 := rfl
def bi (b : Bool) : Int32 := if b then 1 else 0
theorem bi_0 (b : Bool) : bi b = 0 ↔ b = false := by cases b <;> decide
theorem oZ_bi {β : Type} (c : Bool) (k : Option β) : oZ (bi c) k = k := by cases c <;> rfl
theorem lt_toInt {a b : Int32} : a < b ↔ a.toInt < b.toInt := Int32.lt_iff_toInt_lt
theorem le_toInt {a b : Int32} : a ≤ b ↔ a.toInt ≤ b.toInt := Int32.le_iff_toInt_le
theorem nI_sub1_toInt {n : Nat} (h : n < 2 ^ 31) : (nI n - 1).toInt = (n : Int) - 1 := by
  rcases Nat.eq_zero_or_pos n with h0 | h0
  · subst h0; decide
  · obtain ⟨m, rfl⟩ : ∃ m, n = m + 1 := ⟨n - 1, by omega⟩
    rw [nI_pred, nI_toInt (by omega)]; omega
theorem within_eq (x lo hi : Int32) : f_X9_within x lo hi = some (bi (decide (lo ≤ x ∧ x ≤ hi))) := by
  unfold f_X9_within
  by_cases h1 : x < lo
  · rw [if_pos h1, show decide (lo ≤ x ∧ x ≤ hi) = false from decide_eq_false (fun h => by rw [lt_toInt] at h1; rw [le_toInt, le_toInt] at h; omega)]; rfl
  · rw [if_neg h1]
    by_cases h2 : hi < x
    · rw [if_pos h2, show decide (lo ≤ x ∧ x ≤ hi) = false from decide_eq_false (fun h => by rw [lt_toInt] at h2; rw [le_toInt, le_toInt] at h; omega)]; rfl
    · rw [if_neg h2, show decide (lo ≤ x ∧ x ≤ hi) = true from decide_eq_true (by rw [lt_toInt] at h1 h2; rw [le_toInt, le_toInt]; omega)]; rfl
theorem in_eq (x lo hi : Int32) : f_X10_in x.toInt64 lo.toInt64 hi.toInt64 = f_X9_within x lo hi := by
  unfold f_X10_in f_X9_within
  simp only [lg_cmp_lt, lg_cmp_gt, fa_wide_lt]
theorem in_eq0 (x : Int32) (hi : Int64) (h : Int32) (e : h.toInt64 = hi) : f_X10_in x.toInt64 0 hi = f_X9_within x 0 h := by
  rw [← e]; exact in_eq x 0 h
theorem has_eq {n : Nat} (hn : n < 2 ^ 31) (x : Int32) : f_X5_has (nI n) x = f_X9_within x 0 (nI n - 1) := by
  unfold f_X5_has f_X9_within
  have : (nI n ≤ x) ↔ (nI n - 1 < x) := by rw [le_toInt, lt_toInt, nI_sub1_toInt hn, nI_toInt hn]; omega
  simp only [this]
theorem isStep_eq {n : Nat} (hn : n < 2 ^ 31) (x : Int32) : f_X10_isStep (nI n) x = f_X5_has (nI n) x := by
  unfold f_X10_isStep
  rw [in_eq0 x _ (nI n - 1) rfl, ← has_eq hn x, has_eq hn x, within_eq, oB1_s, oZ_bi]
theorem has_in {n j : Nat} (h : j < n) (hn : n < 2 ^ 31) : f_X5_has (nI n) (nI j) = some 1 := by
  unfold f_X5_has
  rw [if_neg (nI_pos (by omega)), if_neg (by rw [nI_le_iff hn (by omega)]; omega)]
theorem has_out {n : Nat} {x : Int32} (h : x < 0 ∨ nI n ≤ x) : f_X5_has (nI n) x = some 0 := by
  unfold f_X5_has
  by_cases h1 : x < 0
  · rw [if_pos h1]
  · rw [if_neg h1, if_pos (h.resolve_left h1)]
theorem wi_in {m j : Nat} (h : j ≤ m) (hm : m < 2 ^ 31) : f_X9_within (nI j) 0 (nI m) = some 1 := by
  unfold f_X9_within
  rw [if_neg (nI_pos (by omega)), if_neg (by rw [nI_lt_iff hm (by omega)]; omega)]
theorem wi_out {m : Nat} (hm : m + 1 < 2 ^ 31) {x : Int32} (h : x < 0 ∨ nI (m + 1) ≤ x) : f_X9_within x 0 (nI m) = some 0 := by
  unfold f_X9_within
  by_cases h1 : x < 0
  · rw [if_pos h1]
  · have h2 := h.resolve_left h1
    rw [if_neg h1, if_pos (by rw [le_toInt, nI_toInt hm] at h2; rw [lt_toInt, nI_toInt (by omega)]; omega)]
theorem isSystem9_eq (x : Int32) : f_X9_isSystem x = f_X9_within x 0 2 := by unfold f_X9_isSystem; rw [within_eq, oB1_s, oZ_bi]
theorem isSystem10_eq (x : Int32) : f_X10_isSystem x = f_X9_within x 0 2 := by unfold f_X10_isSystem; rw [in_eq0 x 2 2 rfl, within_eq, oB1_s, oZ_bi]
theorem isLetter_eq (x : Int32) : f_X10_isLetter x = f_X9_within x 0 7 := by unfold f_X10_isLetter; rw [in_eq0 x 7 7 rfl, within_eq, oB1_s, oZ_bi]
theorem isNumber9_eq (x : Int32) : f_X9_isNumber x = f_X9_within x (-9) 9 := by unfold f_X9_isNumber; rw [within_eq, oB1_s, oZ_bi]
theorem isNumber10_eq (x : Int32) : f_X10_isNumber x = f_X9_within x (-9) 9 := by
  unfold f_X10_isNumber
  rw [show f_X10_in x.toInt64 (-9) 9 = f_X9_within x (-9) 9 from in_eq x (-9) 9, within_eq, oB1_s, oZ_bi]
theorem cell_eq (c : Nat → Int32) {s w : Nat} (hs : s < 40) (hw : w < 8) : f_X5_cell c (nI s) (nI w) = some (c (8 * s + w)) := by
  unfold f_X5_cell
  exact oA_n (8 * s + w) _ (by rw [i8, nI_mul, nI_add, Nat.mul_comm]) (by omega) (by decide)
theorem cell0 (c : Nat → Int32) {s : Nat} (hs : s < 40) : f_X5_cell c (nI s) 0 = some (c (8 * s)) := cell_eq c hs (w := 0) (by decide)
theorem cell1 (c : Nat → Int32) {s : Nat} (hs : s < 40) : f_X5_cell c (nI s) 1 = some (c (8 * s + 1)) := cell_eq c hs (w := 1) (by decide)
theorem cell2 (c : Nat → Int32) {s : Nat} (hs : s < 40) : f_X5_cell c (nI s) 2 = some (c (8 * s + 2)) := cell_eq c hs (w := 2) (by decide)
theorem cell3 (c : Nat → Int32) {s : Nat} (hs : s < 40) : f_X5_cell c (nI s) 3 = some (c (8 * s + 3)) := cell_eq c hs (w := 3) (by decide)
theorem cell4 (c : Nat → Int32) {s : Nat} (hs : s < 40) : f_X5_cell c (nI s) 4 = some (c (8 * s + 4)) := cell_eq c hs (w := 4) (by decide)
theorem cell5 (c : Nat → Int32) {s : Nat} (hs : s < 40) : f_X5_cell c (nI s) 5 = some (c (8 * s + 5)) := cell_eq c hs (w := 5) (by decide)
theorem cell6 (c : Nat → Int32) {s : Nat} (hs : s < 40) : f_X5_cell c (nI s) 6 = some (c (8 * s + 6)) := cell_eq c hs (w := 6) (by decide)
theorem cell7 (c : Nat → Int32) {s : Nat} (hs : s < 40) : f_X5_cell c (nI s) 7 = some (c (8 * s + 7)) := cell_eq c hs (w := 7) (by decide)
theorem oA40 {β : Type} {j : Nat} (h : j < 40) (k : Nat → Option β) : oA (nI j) 40 k = k j := oA_n j k rfl h (by decide)
/-- what is joined of two, but a letter -/
def jn (x y v : Int32) : Int32 := (x ||| y) &&& (((1 : Int32) <<< (v &&& 31)) ^^^ (-1 : Int32))
theorem joined0 (c : Nat → Int32) {i j : Nat} (hi : i < 40) (hj : j < 40) (v : Int32) : f_X5_joined c (nI i) (nI j) 0 v = some (jn (c (8 * i)) (c (8 * j)) v) := by
  unfold f_X5_joined; rw [cell0 c hi, oB1_s, cell0 c hj, oB1_s]; rfl
theorem joined1 (c : Nat → Int32) {i j : Nat} (hi : i < 40) (hj : j < 40) (v : Int32) : f_X5_joined c (nI i) (nI j) 1 v = some (jn (c (8 * i + 1)) (c (8 * j + 1)) v) := by
  unfold f_X5_joined; rw [cell1 c hi, oB1_s, cell1 c hj, oB1_s]; rfl
/-- whether a step can be made -/
def cmk (ai ni aj nj v : Int32) : Bool := decide (¬ (ai &&& ((1 : Int32) <<< (v &&& 31))) = 0) && (decide (¬ (nj &&& ((1 : Int32) <<< (v &&& 31))) = 0) && decide ((jn ai aj v &&& jn ni nj v) = 0))
theorem canMake9 (c : Nat → Int32) {i j : Nat} (hi : i < 40) (hj : j < 40) (v : Int32) : f_X5_canMake c (nI i) (nI j) v = some (bi (cmk (c (8 * i)) (c (8 * i + 1)) (c (8 * j)) (c (8 * j + 1)) v)) := by
  unfold f_X5_canMake f_X5_canMake_33 f_X5_canMake_34 cmk
  rw [oL_s, cell0 c hi, oB1_s, cell1 c hj, oB1_s, joined0 c hi hj, joined1 c hi hj, oB1_s, oB1_s]
  by_cases h1 : (c (8 * i) &&& ((1 : Int32) <<< (v &&& 31))) = 0
  · simp [h1, bi]
  · by_cases h2 : (c (8 * j + 1) &&& ((1 : Int32) <<< (v &&& 31))) = 0
    · simp [h1, h2, bi]
    · by_cases h3 : (jn (c (8 * i)) (c (8 * j)) v &&& jn (c (8 * i + 1)) (c (8 * j + 1)) v) = 0
      · simp [h1, h2, h3, bi]
      · simp [h1, h2, h3, bi]
def B8 (x : Int32) : Prop := x &&& 255 = x
theorem B8_bt {x : Int32} : B8 x ↔ ∀ i, 8 ≤ i → bt x i = false := by
  constructor
  · intro h i hi
    have : bt (x &&& 255) i = bt x i := by rw [h]
    rw [b_and, b_255, decide_eq_false (by omega), Bool.and_false] at this
    exact this.symm
  · intro h
    apply b_ext
    intro i _
    rw [b_and, b_255]
    by_cases hi : i < 8
    · simp [hi]
    · rw [h i (by omega)]; simp
theorem B8_or {x y : Int32} (hx : B8 x) (hy : B8 y) : B8 (x ||| y) := B8_bt.mpr (fun i hi => by rw [b_or, B8_bt.mp hx i hi, B8_bt.mp hy i hi]; rfl)
theorem B8_and {x : Int32} (hx : B8 x) (y : Int32) : B8 (x &&& y) := B8_bt.mpr (fun i hi => by rw [b_and, B8_bt.mp hx i hi]; rfl)
theorem B8_jn {x y : Int32} (hx : B8 x) (hy : B8 y) (v : Int32) : B8 (jn x y v) := B8_and (B8_or hx hy) _
theorem B8_0 : B8 0 := by unfold B8; decide
theorem bt_nI (n i : Nat) : bt (nI n) i = (decide (i < 32) && n.testBit i) := by
  show (BitVec.ofNat 32 n).getLsbD i = _
  rw [BitVec.getLsbD_ofNat]
theorem B8_nI {p : Nat} (h : p < 256) : B8 (nI p) := B8_bt.mpr (fun i hi => by
  rw [bt_nI, Nat.testBit_lt_two_pow (Nat.lt_of_lt_of_le h (by
    have : 2 ^ 8 ≤ 2 ^ i := Nat.pow_le_pow_right (by decide) hi
    omega))]; simp)
theorem B8_of {x : Int32} (h : B8 x) : ∃ p, p < 256 ∧ x = nI p := by
  refine ⟨x.toBitVec.toNat % 2 ^ 8, Nat.mod_lt _ (by decide), ?_⟩
  rw [← pk_and x (m := 255) 8 (by decide)]
  exact h.symm
/-- a bit of a set, by a shift -/
theorem bit_sh (x : Int32) {l : Nat} (hl : l < 32) : ((x >>> (nI l &&& 31)) &&& 1 = 1) ↔ bt x l = true := by
  have key : ∀ i, i < 32 → bt ((x >>> (nI l &&& 31)) &&& 1) i = (decide (i = 0) && bt x l) := by
    intro i hi
    rw [b_and]
    have h1 : bt 1 i = decide (i = 0) := (by decide +kernel : ∀ i, i < 32 → bt 1 i = decide (i = 0)) i hi
    rw [h1]
    by_cases h0 : i = 0
    · subst h0
      rw [b_sshr l hl x (by decide)]
      simp [hl]
    · simp [h0]
  constructor
  · intro h
    have := key 0 (by decide)
    rw [h] at this
    have h1 : bt 1 0 = true := by decide
    rw [h1] at this
    simpa using this.symm
  · intro h
    apply b_ext
    intro i hi
    rw [key i hi, h]
    have h1 : bt 1 i = decide (i = 0) := (by decide +kernel : ∀ i, i < 32 → bt 1 i = decide (i = 0)) i hi
    rw [h1]; simp
/-- a bit of a set, by a mask -/
theorem bit_mk (x : Int32) {l : Nat} (hl : l < 32) : (¬ (x &&& ((1 : Int32) <<< (nI l &&& 31))) = 0) ↔ bt x l = true := by
  have key : ∀ i, i < 32 → bt (x &&& ((1 : Int32) <<< (nI l &&& 31))) i = (decide (i = l) && bt x l) := by
    intro i hi
    rw [b_and, b_shl l hl 1 hi]
    have h1 : ∀ k, k < 32 → bt 1 k = decide (k = 0) := by decide +kernel
    by_cases h0 : l ≤ i
    · rw [h1 (i - l) (by omega)]
      by_cases h2 : i = l
      · subst h2; simp
      · simp [h2, show ¬ (i - l = 0) by omega]
    · simp [h0, show ¬ i = l by omega]
  constructor
  · intro h
    cases hb : bt x l with
    | true => rfl
    | false =>
      exfalso
      apply h
      apply b_ext
      intro i hi
      rw [key i hi, hb, b_0]; simp
  · intro h h0
    have := key l hl
    rw [h0, b_0, h] at this
    simp at this
theorem has10_eq (x : Int32) {l : Nat} (hl : l < 32) : f_X10_has x (nI l) = some (bi (bt x l)) := by
  unfold f_X10_has
  by_cases h : (x >>> (nI l &&& 31)) &&& 1 = 1
  · rw [if_pos h, (bit_sh x hl).mp h]; rfl
  · rw [if_neg h]
    have : bt x l = false := by
      cases hb : bt x l with
      | false => rfl
      | true => exact absurd ((bit_sh x hl).mpr hb) h
    rw [this]; rfl
theorem cmk_bt (ai ni aj nj : Int32) {v : Nat} (hv : v < 32) : cmk ai ni aj nj (nI v) = (bt ai v && (bt nj v && decide ((jn ai aj (nI v) &&& jn ni nj (nI v)) = 0))) := by
  unfold cmk
  have e1 : decide (¬ (ai &&& ((1 : Int32) <<< (nI v &&& 31))) = 0) = bt ai v := by
    rw [Bool.eq_iff_iff, decide_eq_true_iff]; exact bit_mk ai hv
  have e2 : decide (¬ (nj &&& ((1 : Int32) <<< (nI v &&& 31))) = 0) = bt nj v := by
    rw [Bool.eq_iff_iff, decide_eq_true_iff]; exact bit_mk nj hv
  rw [e1, e2]
theorem canMake10 (as not : Nat → Int32) {i j v : Nat} (hi : i < 40) (hj : j < 40) (hv : v < 32) : f_X10_canMake as not (nI i) (nI j) (nI v) = some (bi (cmk (as i) (not i) (as j) (not j) (nI v))) := by
  unfold f_X10_canMake
  simp only [oA40 hi, oA40 hj, oL_s, has10_eq _ hv, oB1_s]
  rw [cmk_bt _ _ _ _ hv]
  show (if bi (bt (as i) v) = 0 then some 0 else if bi (bt (not j) v) = 0 then some 0 else if (jn (as i) (as j) (nI v) &&& jn (not i) (not j) (nI v)) = 0 then some 1 else some 0) = _
  cases bt (as i) v
  · simp [bi]
  · cases bt (not j) v
    · simp [bi]
    · by_cases h3 : (jn (as i) (as j) (nI v) &&& jn (not i) (not j) (nI v)) = 0
      · simp [h3, bi]
      · simp [h3, bi]
