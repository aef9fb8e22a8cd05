/-! parties of both -/
theorem copyRow40 (a b : Nat → Int32) {k : Nat} (hk : k ≤ 40) : ∃ b', f_X10_copyRow 40 40 a b (nI k) = some b' ∧ ∀ s, s < k → b' s = a s := by
  unfold f_X10_copyRow L_X10_copyRow_2
  refine oF_P0 (σ := (Nat → Int32) × Int32) (fun i z => z.2 = nI i ∧ ∀ s, s < i → z.1 s = a s) k (fun (r : Option (Nat → Int32)) => ∃ b', r = some b' ∧ ∀ s, s < k → b' s = a s) (b, 0) ⟨rfl, fun s hs => absurd hs (by omega)⟩ (by omega) ?_ ?_
  · rintro i ⟨z1, z2⟩ kk hi ⟨g1, g2⟩ hk'
    dsimp only at g1 g2 ⊢
    subst g1
    unfold b_X10_copyRow_2
    rw [if_neg (by rw [nI_le_iff (by omega) (by omega)]; omega), oA40 (show i < 40 by omega), oA40 (show i < 40 by omega), oL_s, oL_s, nI_1]
    refine hk' _ ⟨rfl, fun s hs => ?_⟩
    by_cases e : s = i
    · subst e; exact upd_s _ _ _
    · show upd z1 i (a i) s = a s
      rw [upd_n _ _ e]; exact g2 s (by omega)
  · rintro ⟨z1, z2⟩ kk ⟨g1, g2⟩
    dsimp only at g1 g2 ⊢
    subst g1
    unfold b_X10_copyRow_2
    rw [if_pos (by rw [nI_le_iff (by omega) (by omega)]; omega)]
    exact ⟨z1, rfl, g2⟩
/-- the text read by both -/
def PD (clauses steps undos : Int32) (as not party one two by_ kept : Nat → Int32) (R9 : Option (Int32 × Int32 × Int32 × Int32 × Int32 × (Nat → Int32) × Int32 × Int32 × Int32 × Int32)) (R10 : Option (Int32 × Int32 × Int32 × (Nat → Int32) × (Nat → Int32) × (Nat → Int32) × (Nat → Int32) × (Nat → Int32) × (Nat → Int32) × Int32 × Int32 × Int32 × Int32 × Int32 × Int32 × Int32 × (Nat → Int32) × (Nat → Int32) × (Nat → Int32) × (Nat → Int32) × (Nat → Int32) × (Nat → Int32) × Int32 × (Nat → Int32))) : Prop :=
  ∃ (at0 num na2 rc rs : Int32) (ra rb rp r1 r2 r3 : Nat → Int32),
  (∃ (f at' na' fa' : Int32) (c' : Nat → Int32) (cl' n' la' lb' : Int32), ¬ f = 0 ∧ R9 = some (f, at', na', f, fa', c', cl', n', la', lb') ∧ R10 = some ((-10 : Int32) - f, clauses, steps, as, not, party, one, two, by_, 0, fa', at0, num, na2, rc, rs, ra, rb, rp, r1, r2, r3, undos, kept)) ∨
  (∃ (at' na' fa' : Int32) (c' : Nat → Int32) (cl n : Nat) (a b pt o1 o2 by' : Nat → Int32), SR c' a b pt o1 o2 by' cl n ∧ R9 = some (0, at', na', 0, fa', c', nI cl, nI n, lo a b pt 0 cl, lo a b pt 1 cl) ∧ R10 = some (nI n, nI cl, nI n, a, b, pt, o1, o2, by', 0, -1, at0, num, na2, rc, rs, ra, rb, rp, r1, r2, r3, 0, upd (upd kept 0 (-1)) 1 (-1)))
theorem parties41_ok {c a b pt o1 o2 by_ : Nat → Int32} {cl n : Nat} (h : SR c a b pt o1 o2 by_ cl n) (clauses steps undos at0 num na2 : Int32) (as not party one two by0 kept : Nat → Int32) (at' na' fa' : Int32) : PD clauses steps undos as not party one two by0 kept (some (0, at', na', 0, fa', c, nI cl, nI n, lo a b pt 0 cl, lo a b pt 1 cl)) (f_X10_parties_41 clauses steps (-1) at0 num na2 (nI cl) (nI n) undos as not party one two by0 a b pt o1 o2 by_ kept 0) := by
  have hn : n ≤ 40 := by have := h.1; have := h.2.2.1; omega
  obtain ⟨a', e1, d1⟩ := copyRow40 a as hn
  obtain ⟨b', e2, d2⟩ := copyRow40 b not hn
  obtain ⟨p', e3, d3⟩ := copyRow40 pt party hn
  obtain ⟨q', e4, d4⟩ := copyRow40 o1 one hn
  obtain ⟨r', e5, d5⟩ := copyRow40 o2 two hn
  obtain ⟨s', e6, d6⟩ := copyRow40 by_ by0 hn
  unfold f_X10_parties_41
  rw [if_pos (show (0 : Int32) ≤ 0 by decide), e1, oB1_s, e2, oB1_s, e3, oB1_s, e4, oB1_s, e5, oB1_s, e6, oB1_s, oA_n (i := (0 : Int32)) (n := 2) 0 _ rfl (by decide) (by decide), oL_s, oA_n (i := (1 : Int32)) (n := 2) 1 _ rfl (by decide) (by decide), oL_s]
  refine ⟨_, _, _, _, _, _, _, _, _, _, _, Or.inr ⟨at', na', fa', c, cl, n, a', b', p', q', r', s', ?_, ?_, rfl⟩⟩
  · exact SR_congr h (fun k _ => rfl) (fun s hs => ⟨d1 s hs, d2 s hs, d3 s hs, d4 s hs, d5 s hs, d6 s hs⟩)
  · have hl : ∀ w, lo a' b' p' w cl = lo a b pt w cl := fun w => lo_congr w (fun s hs => have := h.2.1; ⟨d1 s (by omega), d2 s (by omega), d3 s (by omega)⟩)
    rw [hl, hl]
theorem loop_ok {letters text : Nat → Int32} {L : Nat} (ht : TR letters text L) (clauses steps undos : Int32) (as not party one two by0 kept : Nat → Int32) : ∀ (d at1 at_ t n9 n10 cl n : Nat) (na fa num na2 : Int32) (c a b pt o1 o2 by_ : Nat → Int32), L ≤ at_ + d → at1 ≤ at_ → at_ ≤ L → t ≤ at_ → (∀ i, at1 ≤ i → i < at_ → text i = 32) → (at_ < L → ¬ text at_ = 32) → d + 1 < n9 → d + 1 < n10 → SR c a b pt o1 o2 by_ cl n →
    PD clauses steps undos as not party one two by0 kept
      (oF (fun k z => b_X7_readInto_20 (nI L) letters k z.1 z.2.1 z.2.2.1 z.2.2.2.1 z.2.2.2.2.1 z.2.2.2.2.2.1 z.2.2.2.2.2.2.1 z.2.2.2.2.2.2.2.1 z.2.2.2.2.2.2.2.2.1 z.2.2.2.2.2.2.2.2.2) n9 (nI at_, na, (0 : Int32), fa, nI cl, nI n, lo a b pt 0 cl, lo a b pt 1 cl, c, nI t))
      (oF (fun k z => b_X10_parties_22 clauses steps (nI L) undos as not party one two by0 text kept k z.1 z.2.1 z.2.2.1 z.2.2.2.1 z.2.2.2.2.1 z.2.2.2.2.2.1 z.2.2.2.2.2.2.1 z.2.2.2.2.2.2.2.1 z.2.2.2.2.2.2.2.2.1 z.2.2.2.2.2.2.2.2.2.1 z.2.2.2.2.2.2.2.2.2.2.1 z.2.2.2.2.2.2.2.2.2.2.2.1 z.2.2.2.2.2.2.2.2.2.2.2.2) n10 ((-1 : Int32), nI at1, num, na2, nI cl, nI n, a, b, pt, o1, o2, by_, (0 : Int32))) := by
  have hL := ht.1
  intro d
  induction d with
  | zero =>
    intro at1 at_ t n9 n10 cl n na fa num na2 c a b pt o1 o2 by_ hd h1 h2 htt h3 h4 hn9 hn10 h
    have e : at_ = L := by omega
    subst e
    obtain ⟨m9, rfl⟩ : ∃ q, n9 = q + 1 := ⟨n9 - 1, by omega⟩
    obtain ⟨m10, rfl⟩ : ∃ q, n10 = q + 1 := ⟨n10 - 1, by omega⟩
    rw [oF_succ, oF_succ]
    dsimp only
    unfold b_X7_readInto_20 b_X10_parties_22
    rw [if_pos (show nI at_ ≤ nI at_ from (nI_le_iff (by omega) (by omega)).mpr (Nat.le_refl _)), ite_self, if_pos rfl, here10 hL h1 h2 h3 h4, oB2_s, if_neg (Nat.lt_irrefl _), if_pos (by decide)]
    exact parties41_ok h _ _ _ _ _ _ _ _ _ _ _ _ _ _ _ _
  | succ d ih =>
    intro at1 at_ t n9 n10 cl n na fa num na2 c a b pt o1 o2 by_ hd h1 h2 htt h3 h4 hn9 hn10 h
    obtain ⟨m9, rfl⟩ : ∃ q, n9 = q + 1 := ⟨n9 - 1, by omega⟩
    obtain ⟨m10, rfl⟩ : ∃ q, n10 = q + 1 := ⟨n10 - 1, by omega⟩
    rw [oF_succ, oF_succ]
    dsimp only
    unfold b_X7_readInto_20 b_X10_parties_22
    by_cases e : at_ < L
    · obtain ⟨x, hx, ex⟩ := (ht.2 at_ e).2
      rw [if_neg (by rw [nI_le_iff (by omega) (by omega)]; omega), if_neg (by rw [nI_le_iff (by omega) (by omega)]; omega), if_pos rfl, if_pos rfl, here10 hL h1 h2 h3 h4, oB2_s, if_pos e, ex, if_neg (nI_pos (by omega))]
      rcases word_ok ht (Nat.le_refl at_) e (fun i h5 h6 => absurd h6 (by omega)) (h4 e) h na fa (-1) num na2 with ⟨f, q, na', fa', c', cl', n', la', lb', at2, num', na2', rc, rs, a', b', pt', o1', o2', by', f0, f1, hq, e9, e10⟩ | ⟨q, na', c', cl', n', num', na2', a', b', pt', o1', o2', by', q1, q2, hs, e9, e10⟩
      · obtain ⟨p, b1, b2, b3, b4⟩ := blank_ex text hq
        rw [e9, e10, oB9_s, oB13_s, skip9 hL (fun i hi => (ht.2 i hi).1) b1 b2 b3 b4, oB1_s, oL_s, nI_1]
        obtain ⟨r9, rfl⟩ : ∃ q, m9 = q + 1 := ⟨m9 - 1, by omega⟩
        obtain ⟨r10, rfl⟩ : ∃ q, m10 = q + 1 := ⟨m10 - 1, by omega⟩
        rw [oF_succ, oF_succ]
        dsimp only
        unfold f_X10_parties_41
        rw [if_neg f0, if_neg f0, if_neg f1, ite_self, ite_self]
        exact ⟨_, _, _, _, _, _, _, _, _, _, _, Or.inl ⟨f, _, _, _, _, _, _, _, _, f0, rfl, rfl⟩⟩
      · obtain ⟨p, b1, b2, b3, b4⟩ := blank_ex text q2
        rw [e9, e10, oB9_s, oB13_s, skip9 hL (fun i hi => (ht.2 i hi).1) b1 b2 b3 b4, oB1_s, oL_s, nI_1]
        exact ih q p (t + 1) m9 m10 cl' n' na' fa num' na2' c' a' b' pt' o1' o2' by' (by omega) b1 b2 (by omega) b3 b4 (by omega) (by omega) hs
    · have e : at_ = L := by omega
      subst e
      rw [if_pos (show nI at_ ≤ nI at_ from (nI_le_iff (by omega) (by omega)).mpr (Nat.le_refl _)), ite_self, if_pos rfl, here10 hL h1 h2 h3 h4, oB2_s, if_neg (Nat.lt_irrefl _), if_pos (by decide)]
      exact parties41_ok h _ _ _ _ _ _ _ _ _ _ _ _ _ _ _ _
theorem SR_none (c a b pt o1 o2 by_ : Nat → Int32) : SR c a b pt o1 o2 by_ 0 0 :=
  ⟨by omega, by omega, by omega, fun s hs => absurd hs (by omega), fun s hs => absurd hs (by omega), fun s _ hs => absurd hs (by omega)⟩
theorem readInto_ok {letters text : Nat → Int32} {L : Nat} (ht : TR letters text L) (clauses steps undos : Int32) (as not party one two by0 kept : Nat → Int32) (na fa num na2 : Int32) (c ra rb rp r1 r2 r3 : Nat → Int32) : PD clauses steps undos as not party one two by0 kept (f_X7_readInto (nI L) na fa letters c) (f_X10_parties clauses steps (nI L) num na2 undos as not party one two by0 text ra rb rp r1 r2 r3 kept) := by
  have hL := ht.1
  have := xN_big
  obtain ⟨p, b1, b2, b3, b4⟩ := blank_ex text (Nat.zero_le L)
  unfold f_X7_readInto f_X10_parties f_X5_forgetAll L_X7_readInto_20 L_X10_parties_22
  rw [oB4_s, show f_X7_skipBlanks (nI L) (0 : Int32) letters = some (nI p) from skip9 hL (fun i hi => (ht.2 i hi).1) b1 b2 b3 b4, oB1_s]
  exact loop_ok ht clauses steps undos as not party one two by0 kept L 0 p 0 xN xN 0 0 na fa num na2 c ra rb rp r1 r2 r3 (by omega) b1 b2 (by omega) b3 b4 (by omega) (by omega) (SR_none _ _ _ _ _ _ _)
theorem parties_ok {letters text : Nat → Int32} {L : Nat} (ht : TR letters text L) (clauses steps undos : Int32) (as not party one two by0 kept : Nat → Int32) (na fa num na2 : Int32) (c ra rb rp r1 r2 r3 : Nat → Int32) (mc k0 k1 cl0 n0 la lb : Int32) (c0 : Nat → Int32) :
    ∃ (at0 num' na2' rc rs : Int32) (ra' rb' rp' r1' r2' r3' : Nat → Int32) (at' na' f' fa' : Int32),
    (∃ (r fo : Int32) (c' : Nat → Int32) (cl' n' la' lb' : Int32), f_X9_parties (nI L) na fa letters mc k0 k1 cl0 n0 la lb c0 c = some (r, 0, at', na', f', fa', mc, k0, k1, c0, cl0, n0, la, lb, c', cl', n', la', lb', fo) ∧ f_X10_parties clauses steps (nI L) num na2 undos as not party one two by0 text ra rb rp r1 r2 r3 kept = some (r, clauses, steps, as, not, party, one, two, by0, 0, fo, at0, num', na2', rc, rs, ra', rb', rp', r1', r2', r3', undos, kept)) ∨
    (∃ (cl n : Nat) (c' a b pt o1 o2 by' : Nat → Int32), SR c' a b pt o1 o2 by' cl n ∧ f_X9_parties (nI L) na fa letters mc k0 k1 cl0 n0 la lb c0 c = some (nI n, 0, at', na', f', fa', 0, 0, 0, c', nI cl, nI n, lo a b pt 0 cl, lo a b pt 1 cl, c0, cl0, n0, la, lb, -1) ∧ f_X10_parties clauses steps (nI L) num na2 undos as not party one two by0 text ra rb rp r1 r2 r3 kept = some (nI n, nI cl, nI n, a, b, pt, o1, o2, by', 0, -1, at0, num', na2', rc, rs, ra', rb', rp', r1', r2', r3', 0, upd (upd kept 0 (-1)) 1 (-1))) := by
  obtain ⟨at0, num', na2', rc, rs, ra', rb', rp', r1', r2', r3', hr⟩ := readInto_ok ht clauses steps undos as not party one two by0 kept na fa num na2 c ra rb rp r1 r2 r3
  unfold f_X9_parties f_X9_parties_28
  rcases hr with ⟨f, at', na', fa', c', cl', n', la', lb', f0, e9, e10⟩ | ⟨at', na', fa', c', cl, n, a, b, pt, o1, o2, by', hs, e9, e10⟩
  · refine ⟨at0, num', na2', rc, rs, ra', rb', rp', r1', r2', r3', at', na', f, fa', Or.inl ⟨(-10 : Int32) - f, fa', c', cl', n', la', lb', ?_, e10⟩⟩
    rw [e9, oB10_s, if_neg f0, if_neg f0]
  · refine ⟨at0, num', na2', rc, rs, ra', rb', rp', r1', r2', r3', at', na', 0, fa', Or.inr ⟨cl, n, c', a, b, pt, o1, o2, by', hs, ?_, e10⟩⟩
    rw [e9, oB10_s, if_pos rfl, if_pos rfl]
