/-! sentences, step by step -/
theorem q_u : ∀ n, n < 64 → (((nI n).toInt64.toUInt64 &&& Int64.toUInt64 63).toBitVec % 64).toNat = n := by decide +kernel
theorem l_ushr (n : Nat) (hn : n < 64) (x : Int64) (i : Nat) : bl ((x.toUInt64 >>> ((nI n).toInt64.toUInt64 &&& Int64.toUInt64 63)).toInt64) i = bl x (n + i) := by
  show (x.toUInt64 >>> ((nI n).toInt64.toUInt64 &&& Int64.toUInt64 63)).toBitVec.getLsbD i = x.toUInt64.toBitVec.getLsbD (n + i)
  rw [UInt64.toBitVec_shiftRight]
  show (x.toUInt64.toBitVec >>> (((nI n).toInt64.toUInt64 &&& Int64.toUInt64 63).toBitVec % 64).toNat).getLsbD i = _
  rw [q_u n hn, BitVec.getLsbD_ushiftRight]
theorem l_bitu (n : Nat) (hn : n < 64) (x : Int64) : (((x.toUInt64 >>> ((nI n).toInt64.toUInt64 &&& Int64.toUInt64 63)).toInt64) &&& 1) = if bl x n then 1 else 0 := by
  apply l_ext
  intro i hi
  rw [l_and, l_1, l_ushr n hn x i]
  by_cases e : i = 0
  · subst e
    cases h : bl x n <;> simp [h, l_0, l_1]
  · rw [decide_eq_false e, Bool.and_false]
    cases bl x n
    · exact (l_0 i).symm
    · show false = bl 1 i
      rw [l_1, decide_eq_false e]
def csB (R : RW) (cl : Nat) (sys : Int32) (s w : Nat) : Bool :=
  if R 2 s = 0 then (if sys = 0 then CH (R 0 s &&& (lo (R 0) (R 1) (R 2) 0 cl &&& lo (R 0) (R 1) (R 2) 1 cl)) (R 1 s &&& (lo (R 0) (R 1) (R 2) 0 cl &&& lo (R 0) (R 1) (R 2) 1 cl)) (nI w) else false)
  else (if sys < 2 then true else !(CH (R 0 s &&& (lo (R 0) (R 1) (R 2) 0 cl &&& lo (R 0) (R 1) (R 2) 1 cl)) (R 1 s &&& (lo (R 0) (R 1) (R 2) 0 cl &&& lo (R 0) (R 1) (R 2) 1 cl)) (nI w)))
def m2B (sys c : Int32) (x y : Bool) : Bool := if sys = 2 then (if c = 1 then x && y else x || y) else (if c = 0 then x || y else x && y)
def msB (sys c : Int32) (b x y : Bool) : Bool := if sys = 1 then (if c = 2 then (if b then y else x) else m2B sys c x y) else m2B sys c x y
def SY (R : RW) (cl : Nat) (sys : Int32) : Nat → Nat → Nat → Bool
  | 0 => fun _ _ => false
  | k + 1 => fun s w => if s = k then (if k < cl then csB R cl sys k w else msB sys (col (lo (R 0) (R 1) (R 2) 0 cl) (lo (R 0) (R 1) (R 2) 1 cl) (R 5 k).toNatClampNeg) (bt (nI w) (R 5 k).toNatClampNeg) (SY R cl sys k (R 3 k).toNatClampNeg w) (SY R cl sys k (R 4 k).toNatClampNeg w)) else SY R cl sys k s w
theorem SY_old (R : RW) (cl : Nat) (sys : Int32) {k s : Nat} (h : s < k) (w : Nat) : SY R cl sys (k + 1) s w = SY R cl sys k s w := by
  show (if s = k then _ else _) = _
  rw [if_neg (by omega)]
theorem SY_cl (R : RW) {cl : Nat} (sys : Int32) {k : Nat} (h : k < cl) (w : Nat) : SY R cl sys (k + 1) k w = csB R cl sys k w := by
  show (if k = k then _ else _) = _
  rw [if_pos rfl, if_pos h]
theorem SY_md (R : RW) {cl : Nat} (sys : Int32) {k i j v : Nat} (h : cl ≤ k) (h3 : R 3 k = nI i) (h4 : R 4 k = nI j) (h5 : R 5 k = nI v) (hi : i < 2 ^ 31) (hj : j < 2 ^ 31) (hv : v < 2 ^ 31) (w : Nat) : SY R cl sys (k + 1) k w = msB sys (col (lo (R 0) (R 1) (R 2) 0 cl) (lo (R 0) (R 1) (R 2) 1 cl) v) (bt (nI w) v) (SY R cl sys k i w) (SY R cl sys k j w) := by
  show (if k = k then _ else _) = _
  rw [if_pos rfl, if_neg (by omega), h3, h4, h5, nI_clamp hi, nI_clamp hj, nI_clamp hv]
/-- the reference's clause -/
theorem clauseSays10 {c : Nat → Int32} {R : RW} {cl n : Nat} (h : SRR c R cl n) {s : Nat} (hs : s < cl) (sys : Int32) (w : Nat) : f_X10_clauseSays (nI cl) (R 0) (R 1) (R 2) sys (nI s) (nI w) = some (bi (csB R cl sys s w)) := by
  have h1 : cl ≤ 10 := h.1
  unfold f_X10_clauseSays f_X10_clauseSays_47 f_X10_clauseSays_92 csB CH
  simp only [oA40 (show s < 40 by omega), shared_eq _ _ _ (show cl ≤ 40 by omega), oB1_s]
  generalize (nI w ^^^ (-1 : Int32)) = w'
  by_cases e1 : R 2 s = 0
  · rw [if_pos e1, if_pos e1]
    by_cases e2 : sys = 0
    · rw [if_pos e2, if_pos e2]
      split
      · next g1 =>
        split
        · next g2 => simp [g1, g2, bi]
        · next g2 => simp [g1, g2, bi]
      · next g1 => simp [g1, bi]
    · rw [if_neg e2, if_neg e2]; rfl
  · rw [if_neg e1, if_neg e1]
    by_cases e2 : sys < 2
    · rw [if_pos e2, if_pos e2]; rfl
    · rw [if_neg e2, if_neg e2]
      split
      · next g1 =>
        split
        · next g2 => simp [g1, g2, bi]
        · next g2 => simp [g1, g2, bi]
      · next g1 => simp [g1, bi]
theorem madeSays10 {R : RW} {k i j v w : Nat} {so : Nat → Int32} {x y : Bool} (sys c : Int32) (hk : k < 40) (hi : i < 40) (hj : j < 40) (hv : v < 8) (hw : w < 256) (h3 : R 3 k = nI i) (h4 : R 4 k = nI j) (h5 : R 5 k = nI v) (hx : so (256 * i + w) = bi x) (hy : so (256 * j + w) = bi y) : f_X10_madeSays (R 3) (R 4) (R 5) so sys (nI k) (nI w) c = some (bi (msB sys c (bt (nI w) v) x y)) := by
  unfold f_X10_madeSays f_X10_madeSays_70 f_X10_madeSays_99 f_X10_madeSays_116 msB m2B
  simp only [oA40 hk, h3, h4, h5, i256, nI_mul, nI_add]
  rw [oA_n (256 * i + w) _ rfl (by omega) (by decide), oL_s, oA_n (256 * j + w) _ rfl (by omega) (by decide), oL_s, hx, hy, has10_eq _ (by omega), oB1_s, oZ_bi, oZ_bi]
  simp only [bi_0]
  by_cases a1 : sys = 1
  · have a2 : ¬ sys = 2 := by rw [a1]; decide
    by_cases a3 : c = 2
    · have a4 : ¬ c = 0 := by rw [a3]; decide
      simp only [if_pos a1, if_pos a3]
      cases bt (nI w) v <;> rfl
    · simp only [if_pos a1, if_neg a3, if_neg a2]
      by_cases a4 : c = 0
      · simp only [if_pos a4]; cases x <;> cases y <;> rfl
      · simp only [if_neg a4]; cases x <;> cases y <;> rfl
  · simp only [if_neg a1]
    by_cases a2 : sys = 2
    · simp only [if_pos a2]
      by_cases a4 : c = 1
      · simp only [if_pos a4]; cases x <;> cases y <;> rfl
      · simp only [if_neg a4]; cases x <;> cases y <;> rfl
    · simp only [if_neg a2]
      by_cases a4 : c = 0
      · simp only [if_pos a4]; cases x <;> cases y <;> rfl
      · simp only [if_neg a4]; cases x <;> cases y <;> rfl
def SOI (so : Nat → Int32) (R : RW) (cl : Nat) (sys : Int32) (k : Nat) : Prop := ∀ s, s < k → ∀ w, w < 256 → so (256 * s + w) = bi (SY R cl sys k s w)
theorem lay34 {c : Nat → Int32} {R : RW} {cl n s : Nat} (h : SRR c R cl n) (hs : s < n) (sys x4 : Int32) (h4 : cl ≤ s → x4 = col (lo (R 0) (R 1) (R 2) 0 cl) (lo (R 0) (R 1) (R 2) 1 cl) (R 5 s).toNatClampNeg) (k2 : (Nat → Int32) × Int32 → Option (Nat → Int32)) (so : Nat → Int32) (ho : SOI so R cl sys s) : ∃ so', L_X10_laySentences_34 (nI cl) (R 0) (R 1) (R 2) (R 3) (R 4) (R 5) sys (nI s) x4 k2 (so, 0) = k2 (so', nI (s + 1)) ∧ SOI so' R cl sys (s + 1) := by
  have hh := h
  obtain ⟨g1, g2, g3, -, -, g6⟩ := hh
  unfold L_X10_laySentences_34
  refine oF_P0 (σ := (Nat → Int32) × Int32) (fun w z => z.2 = nI w ∧ SOI z.1 R cl sys s ∧ ∀ w', w' < w → z.1 (256 * s + w') = bi (SY R cl sys (s + 1) s w')) 256 (fun r => ∃ so', r = k2 (so', nI (s + 1)) ∧ SOI so' R cl sys (s + 1)) _ ⟨rfl, ho, fun w' hw' => absurd hw' (by omega)⟩ (by omega) ?_ ?_
  · rintro w ⟨z1, z2⟩ k hw ⟨e1, e2, e3⟩ hk
    dsimp only at e1 e2 e3 ⊢
    subst e1
    have fin : ∀ b : Bool, b = SY R cl sys (s + 1) s w → ∃ so', f_X10_laySentences_83 z1 (nI w) ((256 : Int32) * nI s + nI w) (bi b) k = k2 (so', nI (s + 1)) ∧ SOI so' R cl sys (s + 1) := by
      intro b hb
      unfold f_X10_laySentences_83
      rw [oA_n (256 * s + w) _ (by rw [i256, nI_mul, nI_add]) (by omega) (by decide), oZ_bi, oL_s, oL_s, nI_1]
      refine hk _ ⟨rfl, fun s' hs' w' hw' => ?_, fun w' hw' => ?_⟩
      · dsimp only
        rw [upd_n _ _ (by omega)]; exact e2 s' hs' w' hw'
      · dsimp only
        by_cases e : w' = w
        · subst e; rw [upd_s, hb]
        · rw [upd_n _ _ (by omega)]; exact e3 w' (by omega)
    unfold b_X10_laySentences_34
    rw [if_neg (by rw [i256, nI_le_iff (by omega) (by omega)]; omega)]
    by_cases hc : s < cl
    · rw [if_neg (by rw [nI_le_iff (by omega) (by omega)]; omega), clauseSays10 h hc, oB1_s]
      exact fin _ (SY_cl R sys hc w).symm
    · obtain ⟨i, j, v, q1, q2, q3, q4, q5, q6, -⟩ := g6 s (by omega) hs
      rw [if_pos (by rw [nI_le_iff (by omega) (by omega)]; omega), madeSays10 (x := SY R cl sys s i w) (y := SY R cl sys s j w) sys x4 (by omega) (by omega) (by omega) q3 hw q4 q5 q6 (e2 i q1 w hw) (e2 j q2 w hw), oB1_s]
      refine fin _ ?_
      rw [SY_md R sys (by omega) q4 q5 q6 (by omega) (by omega) (by omega), h4 (by omega), q6, nI_clamp (by omega)]
  · rintro ⟨z1, z2⟩ k ⟨e1, e2, e3⟩
    dsimp only at e1 e2 e3 ⊢
    subst e1
    unfold b_X10_laySentences_34
    rw [if_pos (show (256 : Int32) ≤ nI 256 by decide), oL_s, nI_1]
    refine ⟨z1, rfl, fun s' hs' w' hw' => ?_⟩
    by_cases e : s' = s
    · subst e; exact e3 w' hw'
    · rw [SY_old _ _ _ (by omega)]; exact e2 s' (by omega) w' hw'
theorem lay10 {c : Nat → Int32} {R : RW} {cl n t : Nat} (h : SRR c R cl n) (ht : t < n) (sys : Int32) (so : Nat → Int32) : ∃ so', f_X10_laySentences (nI cl) (R 0) (R 1) (R 2) (R 3) (R 4) (R 5) so sys (nI t) = some so' ∧ SOI so' R cl sys (t + 1) := by
  have hh := h
  obtain ⟨g1, g2, g3, -, -, g6⟩ := hh
  unfold f_X10_laySentences L_X10_laySentences_2
  refine oF_P0 (σ := (Nat → Int32) × Int32) (fun s z => z.2 = nI s ∧ SOI z.1 R cl sys s) (t + 1) (fun r => ∃ so', r = some so' ∧ SOI so' R cl sys (t + 1)) _ ⟨rfl, fun s hs => absurd hs (by omega)⟩ (by omega) ?_ ?_
  · rintro s ⟨z1, z2⟩ k hs ⟨e1, e2⟩ hk
    dsimp only at e1 e2 ⊢
    subst e1
    unfold b_X10_laySentences_2 f_X10_laySentences_29
    rw [if_neg (by rw [nI_lt_iff (by omega) (by omega)]; omega)]
    by_cases hc : s < cl
    · rw [if_neg (by rw [nI_le_iff (by omega) (by omega)]; omega)]
      obtain ⟨so', a1, a2⟩ := lay34 h (show s < n by omega) sys (-1) (fun hx => absurd hx (by omega)) k z1 e2
      rw [a1]
      exact hk _ ⟨rfl, a2⟩
    · obtain ⟨i, j, v, q1, q2, q3, q4, q5, q6, -⟩ := g6 s (by omega) (by omega)
      rw [if_pos (by rw [nI_le_iff (by omega) (by omega)]; omega), oA40 (by omega), q6, colourOf10 _ _ _ (by omega) (by omega), oB1_s]
      obtain ⟨so', a1, a2⟩ := lay34 h (show s < n by omega) sys _ (fun hx => by rw [q6, nI_clamp (by omega)]) k z1 e2
      rw [a1]
      exact hk _ ⟨rfl, a2⟩
  · rintro ⟨z1, z2⟩ k ⟨e1, e2⟩
    dsimp only at e1 e2 ⊢
    subst e1
    unfold b_X10_laySentences_2
    rw [if_pos (by rw [nI_lt_iff (by omega) (by omega)]; omega)]
    exact ⟨z1, rfl, e2⟩
