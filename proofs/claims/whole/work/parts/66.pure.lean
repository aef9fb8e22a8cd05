/-! images -/
theorem SR_congr {c c' a b pt o1 o2 by_ a' b' pt' o1' o2' by' : Nat → Int32} {cl n : Nat} (h : SR c a b pt o1 o2 by_ cl n) (hc : ∀ k, k < 8 * n → c' k = c k) (hr : ∀ s, s < n → a' s = a s ∧ b' s = b s ∧ pt' s = pt s ∧ o1' s = o1 s ∧ o2' s = o2 s ∧ by' s = by_ s) : SR c' a' b' pt' o1' o2' by' cl n := by
  obtain ⟨h1, h2, h3, h4, h5, h6⟩ := h
  refine ⟨h1, h2, h3, fun s hs => ?_, fun s hs => ?_, fun s hs hs2 => ?_⟩
  · obtain ⟨r1, r2, r3, r4, r5, r6⟩ := hr s hs
    rw [hc _ (by omega), hc _ (by omega), hc _ (by omega), hc _ (by omega), hc _ (by omega), hc _ (by omega), r1, r2, r3, r4, r5, r6]
    exact h4 s hs
  · obtain ⟨r1, r2, r3, r4, r5, r6⟩ := hr s (by omega)
    rw [hc _ (by omega), hc _ (by omega), r3]
    exact h5 s hs
  · obtain ⟨r1, r2, r3, r4, r5, r6⟩ := hr s hs2
    obtain ⟨i0, j0, v0, q1, q2, q3, q4, q5, q6, q7, q8⟩ := h6 s hs hs2
    refine ⟨i0, j0, v0, q1, q2, q3, by rw [r4]; exact q4, by rw [r5]; exact q5, by rw [r6]; exact q6, ?_, ?_⟩
    · rw [hc _ (by omega), hc _ (by omega), hc _ (by omega)]; exact q7
    · rw [hc _ (by omega), hc _ (by omega), hc _ (by omega)]; exact q8
theorem copyFrom9 (ic c : Nat → Int32) {n : Nat} (hn : n ≤ 40) (x1 x2 x3 : Int32) : f_X5_copyFrom ic x1 (nI n) x2 x3 c = some (va_cpy c ic 0 0 (8 * n), x1, nI n, x2, x3) := by
  unfold f_X5_copyFrom oC
  rw [show nI n * (8 : Int32) = nI (8 * n) by rw [i8, nI_mul, Nat.mul_comm], nI_clamp (show 8 * n < 2 ^ 31 by omega)]
  rw [if_pos ⟨by decide, by decide, nI_pos (by omega), by show 0 + 8 * n ≤ 320; omega, by show 0 + 8 * n ≤ 320; omega⟩]
  rfl
/-- an image's rows -/
def imR (im : Nat → Int32) (x : Nat) : RW := fun f s => im (240 * x + 40 * f + s)
theorem cpy_low {c ic : Nat → Int32} {n k : Nat} (h : k < n) : va_cpy c ic 0 0 n k = c k := by
  rw [pk_cpy_in (by omega) (by omega), show 0 + (k - 0) = k by omega]
theorem i40x : (40 : Int32) = nI 40 := rfl
theorem i80x : (80 : Int32) = nI 80 := rfl
theorem i120x : (120 : Int32) = nI 120 := rfl
theorem i160x : (160 : Int32) = nI 160 := rfl
theorem i200x : (200 : Int32) = nI 200 := rfl
theorem keepL (R : RW) {n x : Nat} (hn : n ≤ 40) (hx : x < 2) (ks im : Nat → Int32) : ∃ im', L_X10_keep_25 (nI n) (R 0) (R 1) (R 2) (R 3) (R 4) (R 5) ks (nI x) (im, 0) = some (nI n, 0, ks, im') ∧ (∀ f, f < 6 → ∀ s, s < n → imR im' x f s = R f s) ∧ ∀ k, k < 240 * x ∨ 240 * x + 240 ≤ k → im' k = im k := by
  unfold L_X10_keep_25
  refine oF_P0 (σ := (Nat → Int32) × Int32) (fun i z => z.2 = nI i ∧ (∀ f, f < 6 → ∀ s, s < i → imR z.1 x f s = R f s) ∧ ∀ k, k < 240 * x ∨ 240 * x + 240 ≤ k → z.1 k = im k) n (fun r => ∃ im', r = some (nI n, 0, ks, im') ∧ (∀ f, f < 6 → ∀ s, s < n → imR im' x f s = R f s) ∧ ∀ k, k < 240 * x ∨ 240 * x + 240 ≤ k → im' k = im k) _ ⟨rfl, fun f hf s hs => absurd hs (by omega), fun k _ => rfl⟩ (by omega) ?_ ?_
  · rintro i ⟨z1, z2⟩ k hi ⟨hz, hI, hO⟩ hk
    dsimp only at hz hI hO ⊢
    subst hz
    unfold b_X10_keep_25
    rw [if_neg (by rw [nI_le_iff (by omega) (by omega)]; omega)]
    simp only [oA40 (show i < 40 by omega), oL_s, i240, nI_mul, i40, i80x, i120x, i160x, i200x, nI_add]
    rw [oA_n (240 * x + i) _ rfl (by omega) (by decide), oA_n (240 * x + i + 40) _ rfl (by omega) (by decide), oA_n (240 * x + i + 80) _ rfl (by omega) (by decide), oA_n (240 * x + i + 120) _ rfl (by omega) (by decide), oA_n (240 * x + i + 160) _ rfl (by omega) (by decide), oA_n (240 * x + i + 200) _ rfl (by omega) (by decide), nI_1]
    refine hk _ ⟨rfl, fun f hf s hs => ?_, fun q hq => ?_⟩
    · unfold imR at hI ⊢
      dsimp only
      by_cases e : s = i
      · subst e
        rcases (show f = 0 ∨ f = 1 ∨ f = 2 ∨ f = 3 ∨ f = 4 ∨ f = 5 by omega) with rfl | rfl | rfl | rfl | rfl | rfl
        · rw [upd_n _ _ (by omega), upd_n _ _ (by omega), upd_n _ _ (by omega), upd_n _ _ (by omega), upd_n _ _ (by omega), show 240 * x + 40 * 0 + s = 240 * x + s by omega, upd_s]
        · rw [upd_n _ _ (by omega), upd_n _ _ (by omega), upd_n _ _ (by omega), upd_n _ _ (by omega), show 240 * x + 40 * 1 + s = 240 * x + s + 40 by omega, upd_s]
        · rw [upd_n _ _ (by omega), upd_n _ _ (by omega), upd_n _ _ (by omega), show 240 * x + 40 * 2 + s = 240 * x + s + 80 by omega, upd_s]
        · rw [upd_n _ _ (by omega), upd_n _ _ (by omega), show 240 * x + 40 * 3 + s = 240 * x + s + 120 by omega, upd_s]
        · rw [upd_n _ _ (by omega), show 240 * x + 40 * 4 + s = 240 * x + s + 160 by omega, upd_s]
        · rw [show 240 * x + 40 * 5 + s = 240 * x + s + 200 by omega, upd_s]
      · have h0 := hI f hf s (by omega)
        rcases (show f = 0 ∨ f = 1 ∨ f = 2 ∨ f = 3 ∨ f = 4 ∨ f = 5 by omega) with rfl | rfl | rfl | rfl | rfl | rfl <;> rw [upd_n _ _ (by omega), upd_n _ _ (by omega), upd_n _ _ (by omega), upd_n _ _ (by omega), upd_n _ _ (by omega), upd_n _ _ (by omega)] <;> exact h0
    · dsimp only
      rw [upd_n _ _ (by omega), upd_n _ _ (by omega), upd_n _ _ (by omega), upd_n _ _ (by omega), upd_n _ _ (by omega), upd_n _ _ (by omega)]
      exact hO q hq
  · rintro ⟨z1, z2⟩ k ⟨hz, hI, hO⟩
    dsimp only at hz hI hO ⊢
    subst hz
    unfold b_X10_keep_25
    rw [if_pos (by rw [nI_le_iff (by omega) (by omega)]; omega)]
    exact ⟨z1, rfl, hI, hO⟩
theorem goBackL (R : RW) {n x : Nat} (hn : n ≤ 40) (hx : x < 2) (im : Nat → Int32) : ∃ R' : RW, L_X10_goBack_37 (nI n) im (nI x) (R 0, R 1, R 2, R 3, R 4, R 5, 0) = some (nI n, nI n, R' 0, R' 1, R' 2, R' 3, R' 4, R' 5, 0) ∧ ∀ f, f < 6 → ∀ s, s < n → R' f s = imR im x f s := by
  unfold L_X10_goBack_37
  refine oF_P0 (σ := (Nat → Int32) × (Nat → Int32) × (Nat → Int32) × (Nat → Int32) × (Nat → Int32) × (Nat → Int32) × Int32) (fun i z => ∃ Q : RW, z = (Q 0, Q 1, Q 2, Q 3, Q 4, Q 5, nI i) ∧ ∀ f, f < 6 → ∀ s, s < i → Q f s = imR im x f s) n (fun r => ∃ R' : RW, r = some (nI n, nI n, R' 0, R' 1, R' 2, R' 3, R' 4, R' 5, 0) ∧ ∀ f, f < 6 → ∀ s, s < n → R' f s = imR im x f s) _ ⟨R, rfl, fun f hf s hs => absurd hs (by omega)⟩ (by omega) ?_ ?_
  · rintro i z k hi ⟨Q, rfl, hI⟩ hk
    dsimp only
    unfold b_X10_goBack_37
    rw [if_neg (by rw [nI_le_iff (by omega) (by omega)]; omega)]
    simp only [oA40 (show i < 40 by omega), oL_s, i240, nI_mul, i40, i80x, i120x, i160x, i200x, nI_add]
    rw [oA_n (240 * x + i) _ rfl (by omega) (by decide), oA_n (240 * x + i + 40) _ rfl (by omega) (by decide), oA_n (240 * x + i + 80) _ rfl (by omega) (by decide), oA_n (240 * x + i + 120) _ rfl (by omega) (by decide), oA_n (240 * x + i + 160) _ rfl (by omega) (by decide), oA_n (240 * x + i + 200) _ rfl (by omega) (by decide), nI_1]
    refine hk _ ⟨fun f => upd (Q f) i (im (240 * x + i + 40 * f)), rfl, fun f hf s hs => ?_⟩
    show upd (Q f) i (im (240 * x + i + 40 * f)) s = _
    by_cases e : s = i
    · subst e
      rw [upd_s]
      unfold imR
      rw [show 240 * x + s + 40 * f = 240 * x + 40 * f + s by omega]
    · rw [upd_n _ _ e]; exact hI f hf s (by omega)
  · rintro z k ⟨Q, rfl, hI⟩
    dsimp only
    unfold b_X10_goBack_37
    rw [if_pos (by rw [nI_le_iff (by omega) (by omega)]; omega)]
    exact ⟨Q, rfl, hI⟩
/-- an image of both -/
def IR (kept icl icn ia ib : Int32) (ic : Nat → Int32) (ks im : Nat → Int32) (cl x : Nat) : Prop :=
  (kept = 0 ∧ ks x = -1) ∨ (kept = 1 ∧ ∃ m, ks x = nI m ∧ icn = nI m ∧ icl = nI cl ∧ SRR ic (imR im x) cl m ∧ ia = lo (imR im x 0) (imR im x 1) (imR im x 2) 0 cl ∧ ib = lo (imR im x 0) (imR im x 1) (imR im x 2) 1 cl)
theorem IR_other {kept icl icn ia ib : Int32} {ic ks im ks' im' : Nat → Int32} {cl x : Nat} (h : IR kept icl icn ia ib ic ks im cl x) (h1 : ks' x = ks x) (h2 : ∀ k, 240 * x ≤ k → k < 240 * x + 240 → im' k = im k) : IR kept icl icn ia ib ic ks' im' cl x := by
  rcases h with ⟨g1, g2⟩ | ⟨g1, m, g2, g3, g4, g5, g6, g7⟩
  · exact Or.inl ⟨g1, by rw [h1]; exact g2⟩
  · have hm : m ≤ 40 := by have := g5.1; have := g5.2.2.1; omega
    have hr : ∀ f, f < 6 → ∀ s, s < 40 → imR im' x f s = imR im x f s := fun f hf s hs => h2 _ (by omega) (by omega)
    have hl : ∀ w, lo (imR im' x 0) (imR im' x 1) (imR im' x 2) w cl = lo (imR im x 0) (imR im x 1) (imR im x 2) w cl := fun w => lo_congr w (fun s hs => by
      have := g5.1
      exact ⟨hr 0 (by omega) s (by omega), hr 1 (by omega) s (by omega), hr 2 (by omega) s (by omega)⟩)
    refine Or.inr ⟨g1, m, by rw [h1]; exact g2, g3, g4, SR_congr g5 (fun k _ => rfl) (fun s hs => ?_), by rw [hl]; exact g6, by rw [hl]; exact g7⟩
    exact ⟨hr 0 (by omega) s (by omega), hr 1 (by omega) s (by omega), hr 2 (by omega) s (by omega), hr 3 (by omega) s (by omega), hr 4 (by omega) s (by omega), hr 5 (by omega) s (by omega)⟩
theorem IR_new {c ic ks im' : Nat → Int32} {R : RW} {cl n x : Nat} (h : SRR c R cl n) (hx : x < 2) (hf : ∀ f, f < 6 → ∀ s, s < n → imR im' x f s = R f s) : IR 1 (nI cl) (nI n) (lo (R 0) (R 1) (R 2) 0 cl) (lo (R 0) (R 1) (R 2) 1 cl) (va_cpy c ic 0 0 (8 * n)) (upd ks x (nI n)) im' cl x := by
  have hl : ∀ w, lo (imR im' x 0) (imR im' x 1) (imR im' x 2) w cl = lo (R 0) (R 1) (R 2) w cl := fun w => lo_congr w (fun s hs => by
    have := h.2.1
    exact ⟨hf 0 (by omega) s (by omega), hf 1 (by omega) s (by omega), hf 2 (by omega) s (by omega)⟩)
  refine Or.inr ⟨rfl, n, upd_s _ _ _, rfl, rfl, SR_congr h (fun k hk => cpy_low hk) (fun s hs => ?_), (hl 0).symm, (hl 1).symm⟩
  exact ⟨hf 0 (by omega) s hs, hf 1 (by omega) s hs, hf 2 (by omega) s hs, hf 3 (by omega) s hs, hf 4 (by omega) s hs, hf 5 (by omega) s hs⟩
theorem keep_ok {c c0 c1 ks im : Nat → Int32} {R : RW} {cl n : Nat} {k0 cl0 n0 a0 b0 k1 cl1 n1 a1 b1 mc und : Int32} (h : SRR c R cl n) (h0 : IR k0 cl0 n0 a0 b0 c0 ks im cl 0) (h1 : IR k1 cl1 n1 a1 b1 c1 ks im cl 1) (x : Int32) :
    ∃ r c0' c1' ks' im' k0' cl0' n0' a0' b0' k1' cl1' n1' a1' b1' mc' und', f_X9_keep mc k0 cl0 n0 a0 b0 c0 k1 cl1 n1 a1 b1 c1 (nI cl) (nI n) (lo (R 0) (R 1) (R 2) 0 cl) (lo (R 0) (R 1) (R 2) 1 cl) c x = some (r, mc', c0', cl0', n0', a0', b0', k0', c1', cl1', n1', a1', b1', k1') ∧ f_X10_keep (nI n) und (R 0) (R 1) (R 2) (R 3) (R 4) (R 5) ks im x = some (r, und', ks', im') ∧ ((mc' = mc ∧ und' = und) ∨ (mc' = 0 ∧ und' = 0)) ∧ IR k0' cl0' n0' a0' b0' c0' ks' im' cl 0 ∧ IR k1' cl1' n1' a1' b1' c1' ks' im' cl 1 := by
  have hn : n ≤ 40 := by have := h.1; have := h.2.2.1; omega
  unfold f_X9_keep f_X10_keep
  rw [in_eq0 x 1 1 rfl]
  rcases i_cases x 2 (by omega) with ⟨i, hi, rfl⟩ | hx
  · rw [show f_X9_within (nI i) 0 1 = some 1 from wi_in (m := 1) (by omega) (by decide), oB1_s, oB1_s]
    simp only [show ¬ (1 : Int32) = 0 by decide, if_false]
    rw [oA_n i _ rfl hi (by decide), oL_s]
    rcases (show i = 0 ∨ i = 1 by omega) with rfl | rfl
    · rw [if_pos (show nI 0 = 0 from rfl), copyFrom9 _ _ hn, oB5_s]
      obtain ⟨im', e1, e2, e3⟩ := keepL R hn hi (upd ks 0 (nI n)) im
      rw [e1]
      exact ⟨_, _, _, _, _, _, _, _, _, _, _, _, _, _, _, _, _, rfl, rfl, Or.inr ⟨rfl, rfl⟩, IR_new h hi e2, IR_other h1 (upd_n _ _ (by omega)) (fun k q1 q2 => e3 k (by omega))⟩
    · rw [if_neg (show ¬ nI 1 = 0 by decide), if_pos (show nI 1 = 1 from rfl), copyFrom9 _ _ hn, oB5_s]
      obtain ⟨im', e1, e2, e3⟩ := keepL R hn hi (upd ks 1 (nI n)) im
      rw [e1]
      exact ⟨_, _, _, _, _, _, _, _, _, _, _, _, _, _, _, _, _, rfl, rfl, Or.inr ⟨rfl, rfl⟩, IR_other h0 (upd_n _ _ (by omega)) (fun k q1 q2 => e3 k (by omega)), IR_new h hi e2⟩
  · rw [show f_X9_within x 0 1 = some 0 from wi_out (m := 1) (by decide) hx, oB1_s, oB1_s]
    exact ⟨_, _, _, _, _, _, _, _, _, _, _, _, _, _, _, _, _, rfl, rfl, Or.inl ⟨rfl, rfl⟩, h0, h1⟩
theorem goBack_ok {c c0 c1 ks im : Nat → Int32} {R : RW} {cl n : Nat} {k0 cl0 n0 a0 b0 k1 cl1 n1 a1 b1 mc und : Int32} (h : SRR c R cl n) (h0 : IR k0 cl0 n0 a0 b0 c0 ks im cl 0) (h1 : IR k1 cl1 n1 a1 b1 c1 ks im cl 1) (x : Int32) :
    ∃ r c' R' n' mc' und', f_X9_goBack mc k0 cl0 n0 a0 b0 c0 k1 cl1 n1 a1 b1 c1 (nI cl) (nI n) (lo (R 0) (R 1) (R 2) 0 cl) (lo (R 0) (R 1) (R 2) 1 cl) c x = some (r, mc', c', nI cl, nI n', lo (R' 0) (R' 1) (R' 2) 0 cl, lo (R' 0) (R' 1) (R' 2) 1 cl) ∧ f_X10_goBack (nI n) und (R 0) (R 1) (R 2) (R 3) (R 4) (R 5) ks im x = some (r, nI n', R' 0, R' 1, R' 2, R' 3, R' 4, R' 5, und') ∧ ((mc' = mc ∧ und' = und ∧ n' = n) ∨ (mc' = 0 ∧ und' = 0)) ∧ SRR c' R' cl n' := by
  have back : ∀ {kk icl icn ia ib : Int32} {ic : Nat → Int32} {y : Nat}, y < 2 → (kk = 1 ∧ ∃ m, ks y = nI m ∧ icn = nI m ∧ icl = nI cl ∧ SRR ic (imR im y) cl m ∧ ia = lo (imR im y 0) (imR im y 1) (imR im y 2) 0 cl ∧ ib = lo (imR im y 0) (imR im y 1) (imR im y 2) 1 cl) → ∃ c' R' n', f_X5_copyFrom c icl icn ia ib ic = some (c', nI cl, nI n', lo (R' 0) (R' 1) (R' 2) 0 cl, lo (R' 0) (R' 1) (R' 2) 1 cl) ∧ ks y = nI n' ∧ n' ≤ 40 ∧ L_X10_goBack_37 (nI n') im (nI y) (R 0, R 1, R 2, R 3, R 4, R 5, 0) = some (nI n', nI n', R' 0, R' 1, R' 2, R' 3, R' 4, R' 5, 0) ∧ SRR c' R' cl n' := by
    intro kk icl icn ia ib ic y hy hg
    obtain ⟨-, m, g2, g3, g4, g5, g6, g7⟩ := hg
    have hm : m ≤ 40 := by have := g5.1; have := g5.2.2.1; omega
    obtain ⟨R', e1, e2⟩ := goBackL R hm hy im
    have hl : ∀ w, lo (imR im y 0) (imR im y 1) (imR im y 2) w cl = lo (R' 0) (R' 1) (R' 2) w cl := fun w => lo_congr w (fun s hs => by
      have := g5.2.1
      exact ⟨(e2 0 (by omega) s (by omega)).symm, (e2 1 (by omega) s (by omega)).symm, (e2 2 (by omega) s (by omega)).symm⟩)
    refine ⟨_, R', m, by rw [g3, copyFrom9 _ _ hm, g4, g6, g7, hl, hl], g2, hm, e1, SR_congr g5 (fun k hk => cpy_low hk) (fun s hs => ?_)⟩
    exact ⟨e2 0 (by omega) s hs, e2 1 (by omega) s hs, e2 2 (by omega) s hs, e2 3 (by omega) s hs, e2 4 (by omega) s hs, e2 5 (by omega) s hs⟩
  unfold f_X9_goBack f_X10_goBack
  rw [in_eq0 x 1 1 rfl]
  rcases i_cases x 2 (by omega) with ⟨i, hi, rfl⟩ | hx
  · rw [show f_X9_within (nI i) 0 1 = some 1 from wi_in (m := 1) (by omega) (by decide), oB1_s, oB1_s]
    simp only [show ¬ (1 : Int32) = 0 by decide, if_false]
    rw [oA_n i _ rfl hi (by decide), oA_n i _ rfl hi (by decide), oL_s]
    rcases (show i = 0 ∨ i = 1 by omega) with rfl | rfl
    · rw [if_pos (show nI 0 = 0 from rfl)]
      rcases h0 with ⟨g1, g2⟩ | g
      · rw [if_pos g1, g2, if_neg (by decide)]
        exact ⟨_, c, R, n, _, _, rfl, rfl, Or.inl ⟨rfl, rfl, rfl⟩, h⟩
      · obtain ⟨c', R', n', e1, e2, e3, e4, e5⟩ := back hi g
        rw [if_neg (by rw [g.1]; decide), e1, e2, if_pos (nI_pos' (by omega)), e4, oB5_s]
        exact ⟨_, c', R', n', _, _, rfl, rfl, Or.inr ⟨rfl, rfl⟩, e5⟩
    · rw [if_neg (show ¬ nI 1 = 0 by decide), if_pos (show nI 1 = 1 from rfl)]
      rcases h1 with ⟨g1, g2⟩ | g
      · rw [if_pos g1, g2, if_neg (by decide)]
        exact ⟨_, c, R, n, _, _, rfl, rfl, Or.inl ⟨rfl, rfl, rfl⟩, h⟩
      · obtain ⟨c', R', n', e1, e2, e3, e4, e5⟩ := back hi g
        rw [if_neg (by rw [g.1]; decide), e1, e2, if_pos (nI_pos' (by omega)), e4, oB5_s]
        exact ⟨_, c', R', n', _, _, rfl, rfl, Or.inr ⟨rfl, rfl⟩, e5⟩
  · rw [show f_X9_within x 0 1 = some 0 from wi_out (m := 1) (by decide) hx, oB1_s, oB1_s]
    exact ⟨_, c, R, n, _, _, rfl, rfl, Or.inl ⟨rfl, rfl, rfl⟩, h⟩
