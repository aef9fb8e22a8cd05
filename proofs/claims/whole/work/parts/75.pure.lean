/-! sentences of the class -/
theorem ofClause9 {c : Nat → Int32} {R : RW} {cl n : Nat} (h : SRR c R cl n) {s : Nat} (hs : s < cl) {sys : Nat} (hsys : sys ≤ 2) {q : Nat} (hq : q < 4) : ∃ x, f_X4_ofClause (lo (R 0) (R 1) (R 2) 0 cl) (lo (R 0) (R 1) (R 2) 1 cl) c (nI sys) (nI s) (nI q) = some x ∧ ∀ i, i < 64 → bl x i = csB R cl (nI sys) s (64 * q + i) := by
  obtain ⟨h1, h2, h3, h4, h5, h6⟩ := h
  obtain ⟨c0, c1, c2, -, -, -, b1, b2⟩ := h4 s (by omega)
  obtain ⟨x, e1, e2⟩ := whereClause9 (B8_and b1 (lo (R 0) (R 1) (R 2) 0 cl &&& lo (R 0) (R 1) (R 2) 1 cl)) (B8_and b2 (lo (R 0) (R 1) (R 2) 0 cl &&& lo (R 0) (R 1) (R 2) 1 cl)) hq
  unfold f_X4_ofClause f_X4_ofClause_14 f_X4_ofClause_27 f_X4_ofClause_41 f_X5_sharedLetters csB
  simp only [cell0 c (show s < 40 by omega), cell1 c (show s < 40 by omega), cell2 c (show s < 40 by omega), oB1_s, c0, c1, c2, e1]
  simp only [show ¬ (1 : Int32) = 0 by decide, if_false, if_true]
  by_cases p0 : R 2 s = 0
  · simp only [if_pos p0]
    by_cases y0 : nI sys = 0
    · simp only [if_pos y0]
      exact ⟨x, rfl, e2⟩
    · simp only [if_neg y0]
      exact ⟨0, rfl, fun i hi => l_0 i⟩
  · simp only [if_neg p0]
    rcases (show sys = 0 ∨ sys = 1 ∨ sys = 2 by omega) with rfl | rfl | rfl
    · rw [if_neg (by decide)]
      exact ⟨-1, rfl, fun i hi => by rw [l_m1 i hi, if_pos (show nI 0 < 2 by decide)]⟩
    · rw [if_neg (by decide)]
      exact ⟨-1, rfl, fun i hi => by rw [l_m1 i hi, if_pos (show nI 1 < 2 by decide)]⟩
    · rw [if_pos (by decide)]
      refine ⟨_, rfl, fun i hi => ?_⟩
      rw [if_neg (show ¬ nI 2 < 2 by decide), l_xor, l_m1 i hi, e2 i hi, Bool.xor_true]
theorem ofStep9 {c : Nat → Int32} {words : Nat → Int64} {la lb : Int32} {s i j v sys q : Nat} {X Y : Nat → Bool} (hs : s < 40) (hi : i < 40) (hj : j < 40) (hv : v < 8) (hq : q < 4) (h3 : c (8 * s + 3) = nI i) (h4 : c (8 * s + 4) = nI j) (h5 : c (8 * s + 5) = nI v) (hX : ∀ b, b < 64 → bl (words (4 * i + q)) b = X b) (hY : ∀ b, b < 64 → bl (words (4 * j + q)) b = Y b) : ∃ x, f_X4_ofStep words la lb c (nI sys) (nI s) (nI q) = some x ∧ ∀ b, b < 64 → bl x b = msB (nI sys) (col la lb v) (bt (nI (64 * q + b)) v) (X b) (Y b) := by
  obtain ⟨y, e1, e2⟩ := whereSo9 hv hq
  unfold f_X4_ofStep f_X4_ofStep_88 f_X4_ofStep_117
  simp only [cell3 c hs, cell4 c hs, cell5 c hs, oB1_s, h3, h4, h5, colourOf9 la lb (show v < 32 by omega), e1]
  rw [oA_n (4 * i + q) _ (by rw [i4, nI_mul, nI_add, Nat.mul_comm]) (by omega) (by decide), oL_s, oA_n (4 * j + q) _ (by rw [i4, nI_mul, nI_add, Nat.mul_comm]) (by omega) (by decide), oL_s]
  unfold msB m2B
  generalize hx5 : words (4 * i + q) = x5 at hX
  generalize hx7 : words (4 * j + q) = x7 at hY
  have hor : ∀ b, b < 64 → bl (x5 ||| x7) b = (X b || Y b) := fun b hb => by rw [l_or, hX b hb, hY b hb]
  have hand : ∀ b, b < 64 → bl (x5 &&& x7) b = (X b && Y b) := fun b hb => by rw [l_and, hX b hb, hY b hb]
  simp only [show ¬ (1 : Int32) = 0 by decide, if_false, if_true]
  by_cases a1 : nI sys = 1
  · have a2 : ¬ nI sys = 2 := by rw [a1]; decide
    simp only [if_pos a1, if_neg a2]
    by_cases a3 : col la lb v = 2
    · simp only [if_pos a3]
      refine ⟨_, rfl, fun b hb => ?_⟩
      rw [l_or, l_and, l_and, l_xor, l_m1 b hb, e2 b hb, hX b hb, hY b hb]
      cases bt (nI (64 * q + b)) v <;> cases X b <;> cases Y b <;> rfl
    · simp only [if_neg a3]
      by_cases a4 : col la lb v = 0
      · simp only [if_pos a4]; exact ⟨_, rfl, hor⟩
      · simp only [if_neg a4]; exact ⟨_, rfl, hand⟩
  · simp only [if_neg a1]
    by_cases a2 : nI sys = 2
    · simp only [if_pos a2]
      by_cases a4 : col la lb v = 1
      · simp only [if_pos a4]; exact ⟨_, rfl, hand⟩
      · simp only [if_neg a4]; exact ⟨_, rfl, hor⟩
    · simp only [if_neg a2]
      by_cases a4 : col la lb v = 0
      · simp only [if_pos a4]; exact ⟨_, rfl, hor⟩
      · simp only [if_neg a4]; exact ⟨_, rfl, hand⟩
def WSI (words : Nat → Int64) (R : RW) (cl : Nat) (sys : Int32) (k : Nat) : Prop := ∀ s, s < k → ∀ q, q < 4 → ∀ i, i < 64 → bl (words (4 * s + q)) i = SY R cl sys k s (64 * q + i)
theorem read12 {c : Nat → Int32} {R : RW} {cl n s : Nat} (h : SRR c R cl n) (hs : s < n) {sys : Nat} (hsys : sys ≤ 2) (k3 : (Nat → Int64) × Int32 → Option ((Nat → Int64) × Int32)) (wd : Nat → Int64) (ho : WSI wd R cl (nI sys) s) : ∃ wd', L_X4_read_12 (nI cl) (lo (R 0) (R 1) (R 2) 0 cl) (lo (R 0) (R 1) (R 2) 1 cl) c (nI sys) (nI s) k3 (wd, 0) = k3 (wd', nI (s + 1)) ∧ WSI wd' R cl (nI sys) (s + 1) := by
  have hh := h
  obtain ⟨g1, g2, g3, g4, -, g6⟩ := hh
  unfold L_X4_read_12
  refine oF_P0 (σ := (Nat → Int64) × Int32) (fun q z => z.2 = nI q ∧ WSI z.1 R cl (nI sys) s ∧ ∀ q', q' < q → ∀ i, i < 64 → bl (z.1 (4 * s + q')) i = SY R cl (nI sys) (s + 1) s (64 * q' + i)) 4 (fun r => ∃ wd', r = k3 (wd', nI (s + 1)) ∧ WSI wd' R cl (nI sys) (s + 1)) _ ⟨rfl, ho, fun w' hw' => absurd hw' (by omega)⟩ (by omega) ?_ ?_
  · rintro q ⟨z1, z2⟩ k hq ⟨e1, e2, e3⟩ hk
    dsimp only at e1 e2 e3 ⊢
    subst e1
    have fin : ∀ x : Int64, (∀ i, i < 64 → bl x i = SY R cl (nI sys) (s + 1) s (64 * q + i)) → ∃ wd', f_X4_read_60 z1 (nI q) (nI s * (4 : Int32) + nI q) x k = k3 (wd', nI (s + 1)) ∧ WSI wd' R cl (nI sys) (s + 1) := by
      intro x hx
      unfold f_X4_read_60
      rw [oA_n (4 * s + q) _ (by rw [i4, nI_mul, nI_add, Nat.mul_comm]) (by omega) (by decide), oL_s, oL_s, nI_1]
      refine hk _ ⟨rfl, fun s' hs' q' hq' i hi => ?_, fun q' hq' i hi => ?_⟩
      · dsimp only
        rw [updL_n _ _ (by omega)]; exact e2 s' hs' q' hq' i hi
      · dsimp only
        by_cases e : q' = q
        · subst e; rw [updL_s]; exact hx i hi
        · rw [updL_n _ _ (by omega)]; exact e3 q' (by omega) i hi
    unfold b_X4_read_12
    rw [if_neg (by rw [i4, nI_le_iff (by omega) (by omega)]; omega)]
    by_cases hc : s < cl
    · obtain ⟨x, a1, a2⟩ := ofClause9 h hc hsys hq
      rw [if_neg (by rw [nI_le_iff (by omega) (by omega)]; omega), a1, oB1_s]
      exact fin _ (fun i hi => by rw [a2 i hi, SY_cl R _ hc])
    · obtain ⟨i, j, v, q1, q2, q3, q4, q5, q6, -⟩ := g6 s (by omega) hs
      obtain ⟨c0, c1, c2, c3, c4, c5, -⟩ := g4 s hs
      obtain ⟨x, a1, a2⟩ := ofStep9 (c := c) (words := z1) (la := lo (R 0) (R 1) (R 2) 0 cl) (lb := lo (R 0) (R 1) (R 2) 1 cl) (sys := sys) (show s < 40 by omega) (show i < 40 by omega) (show j < 40 by omega) q3 hq (by rw [c3, q4]) (by rw [c4, q5]) (by rw [c5, q6]) (fun b hb => e2 i q1 q hq b hb) (fun b hb => e2 j q2 q hq b hb)
      rw [if_pos (by rw [nI_le_iff (by omega) (by omega)]; omega), a1, oB1_s]
      exact fin _ (fun b hb => by rw [a2 b hb, SY_md R _ (by omega) q4 q5 q6 (by omega) (by omega) (by omega)])
  · rintro ⟨z1, z2⟩ k ⟨e1, e2, e3⟩
    dsimp only at e1 e2 e3 ⊢
    subst e1
    unfold b_X4_read_12
    rw [if_pos (show (4 : Int32) ≤ nI 4 by decide), oL_s, nI_1]
    refine ⟨z1, rfl, fun s' hs' q' hq' i hi => ?_⟩
    by_cases e : s' = s
    · subst e; exact e3 q' hq' i hi
    · rw [SY_old _ _ _ (by omega)]; exact e2 s' (by omega) q' hq' i hi
theorem read9 {c : Nat → Int32} {R : RW} {cl n t : Nat} (h : SRR c R cl n) (ht : t < n) {sys : Nat} (hsys : sys ≤ 2) (wd : Nat → Int64) : ∃ wd', f_X4_read wd (nI cl) (lo (R 0) (R 1) (R 2) 0 cl) (lo (R 0) (R 1) (R 2) 1 cl) c (nI sys) (nI t) = some (wd', nI (4 * t)) ∧ WSI wd' R cl (nI sys) (t + 1) := by
  have hh := h
  obtain ⟨g1, g2, g3, -, -, g6⟩ := hh
  unfold f_X4_read L_X4_read_3
  refine oF_P0 (σ := (Nat → Int64) × Int32) (fun s z => z.2 = nI s ∧ WSI z.1 R cl (nI sys) s) (t + 1) (fun (r : Option ((Nat → Int64) × Int32)) => ∃ wd', r = some (wd', nI (4 * t)) ∧ WSI wd' R cl (nI sys) (t + 1)) _ ⟨rfl, fun s hs => absurd hs (by omega)⟩ (by omega) ?_ ?_
  · rintro s ⟨z1, z2⟩ k hs ⟨e1, e2⟩ hk
    dsimp only at e1 e2 ⊢
    subst e1
    unfold b_X4_read_3
    rw [if_neg (by rw [nI_lt_iff (by omega) (by omega)]; omega)]
    obtain ⟨wd', a1, a2⟩ := read12 h (show s < n by omega) hsys k z1 e2
    rw [a1]
    exact hk _ ⟨rfl, a2⟩
  · rintro ⟨z1, z2⟩ k ⟨e1, e2⟩
    dsimp only at e1 e2 ⊢
    subst e1
    unfold b_X4_read_3
    rw [if_pos (by rw [nI_lt_iff (by omega) (by omega)]; omega), oL_s]
    exact ⟨z1, by rw [i4, nI_mul, Nat.mul_comm], e2⟩
theorem word9 (wd : Nat → Int64) {t q : Nat} (ht : t < 40) (hq : q < 4) : f_X4_word (nI (4 * t)) wd (nI q) = some (wd (4 * t + q)) := by
  unfold f_X4_word
  rw [oA_n (4 * t + q) _ (by rw [nI_add]) (by omega) (by decide)]
theorem w_div : ∀ w, w < 256 → (nI w >>> ((6 : Int32) &&& 31)) = nI (w / 64) ∧ (nI w &&& 63) = nI (w % 64) := by decide +kernel
theorem isSo9 {wd : Nat → Int64} {t w : Nat} (ht : t < 40) (hw : w < 256) : f_X4_isSo (nI (4 * t)) wd (nI w) = some (bi (bl (wd (4 * t + w / 64)) (w % 64))) := by
  unfold f_X4_isSo
  rw [(w_div w hw).1, (w_div w hw).2, word9 wd ht (by omega), oB1_s]
  simp only [lg_cmp_eq, l_bitu (w % 64) (by omega)]
  cases bl (wd (4 * t + w / 64)) (w % 64) <;> rfl
theorem sentence_ok {c : Nat → Int32} {R : RW} {cl n : Nat} (h : SRR c R cl n) (base : Int32) (wd : Nat → Int64) (so : Nat → Int32) (x y z : Int32) : ∃ r wd' base' so', f_X9_sentence base wd (nI cl) (nI n) (lo (R 0) (R 1) (R 2) 0 cl) (lo (R 0) (R 1) (R 2) 1 cl) c x y z = some (r, wd', base') ∧ f_X10_sentence (nI cl) (nI n) (R 0) (R 1) (R 2) (R 3) (R 4) (R 5) so x y z = some (r, so') := by
  have hn : n ≤ 40 := by have := h.1; have := h.2.2.1; omega
  unfold f_X9_sentence f_X10_sentence
  rw [isStep_eq (by omega), isSystem9_eq, isSystem10_eq, in_eq0 z 255 255 rfl]
  rcases i_cases y n (by omega) with ⟨t, ht, rfl⟩ | hy
  · rw [has_in ht (by omega), oB1_s, oB1_s]
    simp only [show ¬ (1 : Int32) = 0 by decide, if_false]
    rcases i_cases x 3 (by omega) with ⟨sys, hsys, rfl⟩ | hx
    · rw [show f_X9_within (nI sys) 0 2 = some 1 from wi_in (m := 2) (by omega) (by decide), oB1_s, oB1_s]
      simp only [show ¬ (1 : Int32) = 0 by decide, if_false]
      rcases i_cases z 256 (by omega) with ⟨w, hw, rfl⟩ | hz
      · rw [show f_X9_within (nI w) 0 255 = some 1 from wi_in (m := 255) (by omega) (by decide), oB1_s, oB1_s]
        simp only [show ¬ (1 : Int32) = 0 by decide, if_false]
        obtain ⟨wd', a1, a2⟩ := read9 h ht (show sys ≤ 2 by omega) wd
        obtain ⟨so', b1, b2⟩ := lay10 h ht (nI sys) so
        rw [a1, oB2_s, b1, oB1_s, isSo9 (by omega) hw, oB1_s, oA_n (256 * t + w) _ (by rw [i256, nI_mul, nI_add]) (by omega) (by decide), b2 t (by omega) w hw, a2 t (by omega) (w / 64) (by omega) (w % 64) (by omega), show 64 * (w / 64) + w % 64 = w by omega]
        cases SY R cl (nI sys) (t + 1) t w
        · exact ⟨_, _, _, _, rfl, rfl⟩
        · exact ⟨_, _, _, _, rfl, rfl⟩
      · rw [show f_X9_within z 0 255 = some 0 from wi_out (m := 255) (by decide) hz, oB1_s, oB1_s]
        exact ⟨_, _, _, _, rfl, rfl⟩
    · rw [show f_X9_within x 0 2 = some 0 from wi_out (m := 2) (by decide) hx, oB1_s, oB1_s]
      exact ⟨_, _, _, _, rfl, rfl⟩
  · rw [has_out hy, oB1_s, oB1_s]
    exact ⟨_, _, _, _, rfl, rfl⟩
