/-! bits of a long; needless -/
def bl (x : Int64) (i : Nat) : Bool := x.toBitVec.getLsbD i
theorem l_ext {x y : Int64} (h : ∀ i, i < 64 → bl x i = bl y i) : x = y := Int64.toBitVec_inj.mp (BitVec.eq_of_getLsbD_eq (fun i hi => h i hi))
theorem l_or (x y : Int64) (i : Nat) : bl (x ||| y) i = (bl x i || bl y i) := by unfold bl; rw [Int64.toBitVec_or, BitVec.getLsbD_or]
theorem l_and (x y : Int64) (i : Nat) : bl (x &&& y) i = (bl x i && bl y i) := by unfold bl; rw [Int64.toBitVec_and, BitVec.getLsbD_and]
theorem l_xor (x y : Int64) (i : Nat) : bl (x ^^^ y) i = (bl x i ^^ bl y i) := by unfold bl; rw [Int64.toBitVec_xor, BitVec.getLsbD_xor]
theorem l_big {x : Int64} {i : Nat} (h : 64 ≤ i) : bl x i = false := BitVec.getLsbD_of_ge _ _ h
theorem l_0 (i : Nat) : bl 0 i = false := BitVec.getLsbD_zero
theorem l_m1 : ∀ i, i < 64 → bl (-1) i = true := by decide +kernel
theorem l_1 (i : Nat) : bl 1 i = decide (i = 0) := by
  rcases Nat.lt_or_ge i 64 with h | h
  · exact (by decide +kernel : ∀ i, i < 64 → bl 1 i = decide (i = 0)) i h
  · rw [l_big h, decide_eq_false (by omega)]
theorem q_l : ∀ n, n < 64 → (((nI n).toInt64 &&& 63).toBitVec.smod 64).toNat = n := by decide +kernel
theorem l_shl (n : Nat) (hn : n < 64) (x : Int64) {i : Nat} (hi : i < 64) : bl (x <<< ((nI n).toInt64 &&& 63)) i = (decide (n ≤ i) && bl x (i - n)) := by
  unfold bl
  rw [Int64.toBitVec_shiftLeft]
  show (x.toBitVec <<< (((nI n).toInt64 &&& 63).toBitVec.smod 64).toNat).getLsbD i = _
  rw [q_l n hn, BitVec.getLsbD_shiftLeft]
  rcases Nat.lt_or_ge i n with h | h
  · simp [h, Nat.not_le.mpr h]
  · simp [hi, h, Nat.not_lt.mpr h]
theorem l_sshr (n : Nat) (hn : n < 64) (x : Int64) {i : Nat} (hi : i < 64) : bl (x >>> ((nI n).toInt64 &&& 63)) i = if n + i < 64 then bl x (n + i) else bl x 63 := by
  unfold bl
  rw [Int64.toBitVec_shiftRight]
  show (x.toBitVec.sshiftRight (((nI n).toInt64 &&& 63).toBitVec.smod 64).toNat).getLsbD i = _
  rw [q_l n hn, BitVec.getLsbD_sshiftRight, BitVec.msb_eq_getLsbD_last]
  simp [hi]
theorem l_1sh {x y : Nat} (hx : x < 64) (hy : y < 64) : bl ((1 : Int64) <<< ((nI x).toInt64 &&& 63)) y = decide (y = x) := by
  rw [l_shl x hx _ hy, l_1]
  by_cases e : y = x
  · subst e; simp
  · by_cases e2 : x ≤ y
    · simp [e, e2]; omega
    · simp [e, e2]
theorem l_bit (n : Nat) (hn : n < 64) (x : Int64) : ((x >>> ((nI n).toInt64 &&& 63)) &&& 1) = if bl x n then 1 else 0 := by
  apply l_ext
  intro i hi
  rw [l_and, l_1, l_sshr n hn x hi]
  by_cases e : i = 0
  · subst e
    rw [if_pos (by omega)]
    cases h : bl x n <;> simp [h, l_0, l_1]
  · rw [decide_eq_false e, Bool.and_false]
    cases bl x n
    · exact (l_0 i).symm
    · show false = bl 1 i
      rw [l_1, decide_eq_false e]
theorem l_test (n : Nat) (hn : n < 64) (x : Int64) : lg_cmp ((x >>> ((nI n).toInt64 &&& 63)) &&& (1 : Int64)) (1 : Int64) = 0 ↔ bl x n = true := by
  rw [lg_cmp_eq, l_bit n hn]
  cases bl x n <;> decide
/-- what is needed after d steps down from e -/
def ND (p q : Nat → Nat) (e : Nat) : Nat → Nat → Bool
  | 0 => fun j => decide (j = e)
  | d + 1 => fun j => ND p q e d j || (ND p q e d (e - d) && (decide (j = p (e - d)) || decide (j = q (e - d))))
def NC (p q : Nat → Nat) (e : Nat) : Nat → Nat
  | 0 => 0
  | d + 1 => NC p q e d + (if ND p q e d (e - d) then 1 else 0)
theorem ND_stay {p q : Nat → Nat} {e cl : Nat} (hp : ∀ s, cl ≤ s → s ≤ e → p s < s ∧ q s < s) {j d : Nat} (hd : e < j + d) (hcl : d + cl ≤ e + 1) : ∀ x, d + x + cl ≤ e + 1 → ND p q e (d + x) j = ND p q e d j := by
  intro x
  induction x with
  | zero => intro _; rfl
  | succ x ih =>
    intro h
    rw [show d + (x + 1) = d + x + 1 by omega]
    show (ND p q e (d + x) j || (ND p q e (d + x) (e - (d + x)) && (decide (j = p (e - (d + x))) || decide (j = q (e - (d + x)))))) = _
    obtain ⟨h1, h2⟩ := hp (e - (d + x)) (by omega) (by omega)
    rw [decide_eq_false (by omega), decide_eq_false (by omega), ih (by omega)]
    simp
theorem ND_above {p q : Nat → Nat} {e cl : Nat} (hp : ∀ s, cl ≤ s → s ≤ e → p s < s ∧ q s < s) {j : Nat} (hj : e < j) (x : Nat) (h : x + cl ≤ e + 1) : ND p q e x j = false := by
  have := ND_stay hp (j := j) (d := 0) (by omega) (by omega) x (by omega)
  rw [Nat.zero_add] at this
  rw [this]
  show decide (j = e) = false
  exact decide_eq_false (by omega)
theorem needless9 {c : Nat → Int32} {p q : Nat → Nat} {e cl n : Nat} (h1 : 1 ≤ cl) (hn : n ≤ 40) (hcn : cl ≤ n) (he : e < n) (hp : ∀ s, cl ≤ s → s ≤ e → p s < s ∧ q s < s) (hcc : ∀ s, cl ≤ s → s < n → c (8 * s + 3) = nI (p s) ∧ c (8 * s + 4) = nI (q s)) : f_X5_madeButNotFor (nI cl) (nI n) c (nI e) = some (nI n - nI cl - nI (NC p q e (e + 1 - cl))) := by
  unfold f_X5_madeButNotFor L_X5_madeButNotFor_10
  rw [oL_s]
  refine oF_P0 (σ := Int64 × Int32 × Int32) (fun d z => z.2.1 = nI (NC p q e d) ∧ z.2.2 = nI (e - d) ∧ ∀ j, j < 64 → bl z.1 j = ND p q e d j) (e + 1 - cl) (fun r => r = some (nI n - nI cl - nI (NC p q e (e + 1 - cl)))) _ ⟨rfl, rfl, fun j hj => l_1sh (by omega) hj⟩ (by omega) ?_ ?_
  · rintro d ⟨z1, z2, z3⟩ k hd ⟨g1, g2, g3⟩ hk
    dsimp only at g1 g2 g3 ⊢
    subst g1; subst g2
    unfold b_X5_madeButNotFor_10 f_X5_madeButNotFor_55
    rw [if_neg (by rw [nI_lt_iff (by omega) (by omega)]; omega)]
    have hz : nI (e - d) + (-1 : Int32) = nI (e - (d + 1)) := by
      rw [show e - d = (e - (d + 1)) + 1 by omega, ← nI_1, Int32.add_assoc]
      exact Int32.add_zero _
    simp only [l_test (e - d) (by omega), g3 (e - d) (by omega)]
    cases hN : ND p q e d (e - d)
    · rw [if_neg (by decide), oL_s, hz]
      refine hk _ ⟨?_, rfl, fun j hj => ?_⟩
      · show nI (NC p q e d) = nI (NC p q e d + (if ND p q e d (e - d) then 1 else 0))
        rw [hN]; rfl
      · show bl z1 j = (ND p q e d j || (ND p q e d (e - d) && _))
        rw [hN, g3 j hj]; simp
    · obtain ⟨c3, c4⟩ := hcc (e - d) (by omega) (by omega)
      obtain ⟨p1, p2⟩ := hp (e - d) (by omega) (by omega)
      rw [if_pos rfl, cell3 c (by omega), oB1_s, cell4 c (by omega), oB1_s, c3, c4, oL_s, oL_s, oL_s, hz, nI_1]
      refine hk _ ⟨?_, rfl, fun j hj => ?_⟩
      · show nI (NC p q e d + 1) = nI (NC p q e d + (if ND p q e d (e - d) then 1 else 0))
        rw [hN]; rfl
      · show bl (z1 ||| _) j = (ND p q e d j || (ND p q e d (e - d) && _))
        rw [hN, l_or, l_or, l_1sh (by omega) hj, l_1sh (by omega) hj, g3 j hj, Bool.true_and]
  · rintro ⟨z1, z2, z3⟩ k ⟨g1, g2, g3⟩
    dsimp only at g1 g2 g3 ⊢
    subst g1; subst g2
    unfold b_X5_madeButNotFor_10
    rw [if_pos (by rw [nI_lt_iff (by omega) (by omega)]; omega)]
theorem needless10c {nd : Nat → Int32} {N : Nat → Bool} {cl n : Nat} (hn : n ≤ 40) (hcl : cl ≤ n) (hN : ∀ j, j < n → nd j = bi (N j)) : ∃ m, L_X10_needless_100 (nI n) nd (0, nI cl) = some (nI m, nd) ∧ ∀ K : Nat → Nat, K 0 = 0 → (∀ i, K (i + 1) = K i + (if N (cl + i) then 0 else 1)) → m = K (n - cl) := by
  obtain ⟨K, k0, ks⟩ : ∃ K : Nat → Nat, K 0 = 0 ∧ ∀ i, K (i + 1) = K i + (if N (cl + i) then 0 else 1) := ⟨fun i => Nat.rec 0 (fun i r => r + (if N (cl + i) then 0 else 1)) i, rfl, fun i => rfl⟩
  refine ⟨K (n - cl), ?_, fun K' e0 es => ?_⟩
  · unfold L_X10_needless_100
    refine oF_run0 (fun i => (nI (K i), nI (cl + i))) (n - cl) _ (by rw [k0]; rfl) (by omega) ?_ ?_
    · intro i hi k
      dsimp only
      unfold b_X10_needless_100 f_X10_needless_123
      rw [if_neg (by rw [nI_le_iff (by omega) (by omega)]; omega), oA40 (by omega), hN _ (by omega)]
      simp only [bi_0, oL_s, nI_1]
      rw [ks i]
      cases N (cl + i)
      · rw [if_pos rfl]; rfl
      · rw [if_neg (by decide), add_z]; rfl
    · intro k
      dsimp only
      unfold b_X10_needless_100
      rw [if_pos (by rw [nI_le_iff (by omega) (by omega)]; omega)]
  · have : ∀ i, K i = K' i := by
      intro i
      induction i with
      | zero => rw [k0, e0]
      | succ i ih => rw [ks, es, ih]
    exact this _
theorem needless10 {o1 o2 nd0 : Nat → Int32} {p q : Nat → Nat} {e cl n : Nat} (h1 : 1 ≤ cl) (hn : n ≤ 40) (hcn : cl ≤ n) (he : e < n) (hp : ∀ s, cl ≤ s → s ≤ e → p s < s ∧ q s < s) (hcc : ∀ s, cl ≤ s → s < n → o1 s = nI (p s) ∧ o2 s = nI (q s)) : ∃ nd, L_X10_needless_14 (nI cl) (nI n) o1 o2 (nI e) (nd0, 0) = L_X10_needless_100 (nI n) nd (0, nI cl) ∧ ∀ j, j < n → nd j = bi (ND p q e (e + 1 - cl) j) := by
  unfold L_X10_needless_14
  refine oF_P0 (σ := (Nat → Int32) × Int32) (fun i z => z.2 = nI i ∧ ∀ j, j < i → z.1 j = bi (decide (j = e))) n (fun r => ∃ nd, r = L_X10_needless_100 (nI n) nd (0, nI cl) ∧ ∀ j, j < n → nd j = bi (ND p q e (e + 1 - cl) j)) _ ⟨rfl, fun j hj => absurd hj (by omega)⟩ (by omega) ?_ ?_
  · rintro i ⟨z1, z2⟩ k hi ⟨g1, g2⟩ hk
    dsimp only at g1 g2 ⊢
    subst g1
    unfold b_X10_needless_14 f_X10_needless_37
    rw [if_neg (by rw [nI_le_iff (by omega) (by omega)]; omega)]
    simp only [oA40 (show i < 40 by omega), oL_s, nI_1, oZ_0, oZ_1, nI_inj (show i < 2 ^ 31 by omega) (show e < 2 ^ 31 by omega)]
    by_cases e1 : i = e
    · rw [if_pos e1]
      refine hk _ ⟨rfl, fun j hj => ?_⟩
      dsimp only
      by_cases e2 : j = i
      · subst e2; rw [upd_s, decide_eq_true e1]; rfl
      · rw [upd_n _ _ e2]; exact g2 j (by omega)
    · rw [if_neg e1]
      refine hk _ ⟨rfl, fun j hj => ?_⟩
      dsimp only
      by_cases e2 : j = i
      · subst e2; rw [upd_s, decide_eq_false e1]; rfl
      · rw [upd_n _ _ e2]; exact g2 j (by omega)
  · rintro ⟨z1, z2⟩ k ⟨g1, g2⟩
    dsimp only at g1 g2 ⊢
    subst g1
    unfold b_X10_needless_14
    rw [if_pos (by rw [nI_le_iff (by omega) (by omega)]; omega)]
    unfold L_X10_needless_46
    refine oF_P0 (σ := (Nat → Int32) × Int32) (fun d z => z.2 = nI (e - d) ∧ ∀ j, j < n → z.1 j = bi (ND p q e d j)) (e + 1 - cl) (fun r => ∃ nd, r = L_X10_needless_100 (nI n) nd (0, nI cl) ∧ ∀ j, j < n → nd j = bi (ND p q e (e + 1 - cl) j)) _ ⟨rfl, g2⟩ (by omega) ?_ ?_
    · rintro d ⟨y1, y2⟩ k hd ⟨g1, g3⟩ hk
      dsimp only at g1 g3 ⊢
      subst g1
      unfold b_X10_needless_46 f_X10_needless_87
      have hz : nI (e - d) + (-1 : Int32) = nI (e - (d + 1)) := by
        rw [show e - d = (e - (d + 1)) + 1 by omega, ← nI_1, Int32.add_assoc]
        exact Int32.add_zero _
      obtain ⟨c3, c4⟩ := hcc (e - d) (by omega) (by omega)
      obtain ⟨p1, p2⟩ := hp (e - d) (by omega) (by omega)
      rw [if_neg (by rw [nI_lt_iff (by omega) (by omega)]; omega)]
      simp only [oA40 (show e - d < 40 by omega), oL_s, hz, g3 (e - d) (by omega), bi_0, c3, c4, oA40 (show p (e - d) < 40 by omega), oA40 (show q (e - d) < 40 by omega)]
      cases hN : ND p q e d (e - d)
      · rw [if_pos rfl]
        refine hk _ ⟨rfl, fun j hj => ?_⟩
        show y1 j = bi (ND p q e d j || (ND p q e d (e - d) && _))
        rw [hN, g3 j hj]; simp
      · rw [if_neg (by decide)]
        refine hk _ ⟨rfl, fun j hj => ?_⟩
        show upd (upd y1 (p (e - d)) 1) (q (e - d)) 1 j = bi (ND p q e d j || (ND p q e d (e - d) && (decide (j = p (e - d)) || decide (j = q (e - d)))))
        rw [hN, Bool.true_and]
        by_cases e2 : j = q (e - d)
        · rw [e2, upd_s]; simp [bi]
        · rw [upd_n _ _ e2]
          by_cases e3 : j = p (e - d)
          · rw [e3, upd_s]; simp [bi]
          · rw [upd_n _ _ e3, g3 j hj, decide_eq_false e2, decide_eq_false e3]; simp
    · rintro ⟨y1, y2⟩ k ⟨g1, g3⟩
      dsimp only at g1 g3 ⊢
      subst g1
      unfold b_X10_needless_46
      rw [if_pos (by rw [nI_lt_iff (by omega) (by omega)]; omega)]
      exact ⟨y1, rfl, g3⟩
theorem needless_cnt {p q : Nat → Nat} {e cl n : Nat} (he : e < n) (hp : ∀ s, cl ≤ s → s ≤ e → p s < s ∧ q s < s) : ∀ K : Nat → Nat, K 0 = 0 → (∀ i, K (i + 1) = K i + (if ND p q e (e + 1 - cl) (cl + i) then 0 else 1)) → K (n - cl) + NC p q e (e + 1 - cl) = n - cl := by
  intro K k0 ks
  rcases Nat.lt_or_ge (e + 1) cl with hlt | hc
  · rw [show e + 1 - cl = 0 by omega] at ks ⊢
    have : ∀ i, K i = i := by
      intro i
      induction i with
      | zero => exact k0
      | succ i ih =>
        rw [ks, ih, if_neg]
        intro h0
        have h9 : cl + i = e := of_decide_eq_true h0
        omega
    rw [this]
    rfl
  have hlow : ∀ i, K i ≤ i := by
    intro i
    induction i with
    | zero => rw [k0]; exact Nat.le_refl _
    | succ i ih => rw [ks]; split <;> omega
  -- above e
  have habove : ∀ x, K (e + 1 - cl + x) = K (e + 1 - cl) + x := by
    intro x
    induction x with
    | zero => rfl
    | succ x ih =>
      rw [show e + 1 - cl + (x + 1) = e + 1 - cl + x + 1 by omega, ks, ih, ND_above hp (by omega) _ (by omega)]
      simp
      omega
  -- below: by d
  have hbel : ∀ d, d + cl ≤ e + 1 → K (e + 1 - cl) + NC p q e d = K (e + 1 - cl - d) + d := by
    intro d
    induction d with
    | zero => intro _; rfl
    | succ d ih =>
      intro h
      have i1 := ih (by omega)
      have i2 := ks (e + 1 - cl - (d + 1))
      rw [show e + 1 - cl - (d + 1) + 1 = e + 1 - cl - d by omega, show cl + (e + 1 - cl - (d + 1)) = e - d by omega] at i2
      have i3 := ND_stay hp (j := e - d) (d := d + 1) (by omega) (by omega) (e + 1 - cl - (d + 1)) (by omega)
      rw [show d + 1 + (e + 1 - cl - (d + 1)) = e + 1 - cl by omega] at i3
      have i4 : ND p q e (d + 1) (e - d) = ND p q e d (e - d) := by
        show (ND p q e d (e - d) || (ND p q e d (e - d) && _)) = _
        obtain ⟨h1, h2⟩ := hp (e - d) (by omega) (by omega)
        cases ND p q e d (e - d) <;> simp
      rw [i3, i4] at i2
      show K (e + 1 - cl) + (NC p q e d + (if ND p q e d (e - d) then 1 else 0)) = _
      cases hN : ND p q e d (e - d) <;> rw [hN] at i2 <;> simp at i2 ⊢ <;> omega
  have a1 := habove (n - (e + 1))
  have a2 := hbel (e + 1 - cl) (by omega)
  rw [show e + 1 - cl + (n - (e + 1)) = n - cl by omega] at a1
  rw [Nat.sub_self, k0] at a2
  omega
theorem needless_ok {c : Nat → Int32} {R : RW} {cl n : Nat} (h : SRR c R cl n) (nd0 : Nat → Int32) : ∃ r nd, f_X9_needless (nI cl) (nI n) c = some r ∧ f_X10_needless (nI cl) (nI n) (R 0) (R 1) (R 3) (R 4) nd0 = some (r, nd) := by
  obtain ⟨h1, h2, h3, h4, h5, h6⟩ := h
  obtain ⟨e, e1, e2, e3⟩ := first_ex (R 0) (R 1) n
  unfold f_X9_needless f_X10_needless
  have hce : ∀ s, s < n → (c (8 * s) ||| c (8 * s + 1)) = (R 0 s ||| R 1 s) := fun s hs => by rw [(h4 s hs).1, (h4 s hs).2.1]
  rw [firstEmpty10 _ _ (by omega) e1 e2 e3, firstEmpty9 c (by omega) e1 (fun i hi => by rw [hce i (by omega)]; exact e2 i hi) (fun hi => by rw [hce e hi]; exact e3 hi), oB1_s, oB1_s]
  unfold feV
  by_cases he : e < n
  · rw [if_pos he, if_neg (nI_ne_m1 (by omega)), if_pos (nI_pos' (by omega))]
    have hcl : 1 ≤ cl := by
      rcases Nat.lt_or_ge cl 1 with hh | hh
      · obtain ⟨i, j, v, q1, -⟩ := h6 0 (by omega) (by omega)
        omega
      · exact hh
    let p : Nat → Nat := fun s => (R 3 s).toNatClampNeg
    let q : Nat → Nat := fun s => (R 4 s).toNatClampNeg
    have hpq : ∀ s, cl ≤ s → s < n → p s < s ∧ q s < s ∧ R 3 s = nI (p s) ∧ R 4 s = nI (q s) := by
      intro s g1 g2
      obtain ⟨i, j, v, q1, q2, q3, q4, q5, -⟩ := h6 s g1 g2
      have a1 : p s = i := by show (R 3 s).toNatClampNeg = i; rw [q4]; exact nI_clamp (by omega)
      have a2 : q s = j := by show (R 4 s).toNatClampNeg = j; rw [q5]; exact nI_clamp (by omega)
      rw [a1, a2]
      exact ⟨q1, q2, q4, q5⟩
    have hp : ∀ s, cl ≤ s → s ≤ e → p s < s ∧ q s < s := fun s g1 g2 => ⟨(hpq s g1 (by omega)).1, (hpq s g1 (by omega)).2.1⟩
    rw [needless9 hcl (by omega) h2 he hp (fun s g1 g2 => by rw [(h4 s g2).2.2.2.1, (h4 s g2).2.2.2.2.1]; exact ⟨(hpq s g1 g2).2.2.1, (hpq s g1 g2).2.2.2⟩), oB1_s]
    obtain ⟨nd, n1, n2⟩ := needless10 (nd0 := nd0) hcl (by omega) h2 he hp (fun s g1 g2 => ⟨(hpq s g1 g2).2.2.1, (hpq s g1 g2).2.2.2⟩)
    obtain ⟨m, m1, m2⟩ := needless10c (cl := cl) (by omega) h2 n2
    rw [n1, m1]
    refine ⟨_, nd, rfl, ?_⟩
    obtain ⟨K, k0, ks⟩ : ∃ K : Nat → Nat, K 0 = 0 ∧ ∀ i, K (i + 1) = K i + (if ND p q e (e + 1 - cl) (cl + i) then 0 else 1) := ⟨fun i => Nat.rec 0 (fun i r => r + (if ND p q e (e + 1 - cl) (cl + i) then 0 else 1)) i, rfl, fun i => rfl⟩
    have f1 := m2 K k0 ks
    have f2 := needless_cnt he hp K k0 ks
    have f3 : n = m + NC p q e (e + 1 - cl) + cl := by omega
    have f4 : nI n - nI cl - nI (NC p q e (e + 1 - cl)) = nI m := by
      rw [show nI n = nI m + nI (NC p q e (e + 1 - cl)) + nI cl by rw [nI_add, nI_add, ← f3], Int32.add_sub_cancel, Int32.add_sub_cancel]
    rw [f4]
  · rw [if_neg he, if_pos rfl, if_neg (by decide)]
    exact ⟨_, nd0, rfl, rfl⟩
