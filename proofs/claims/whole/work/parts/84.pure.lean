/-! seekWeights: the class's search -/
def dg (B k x s : Nat) : Nat := x / B ^ (k - 1 - s) % B
def RF (rows : Nat → Int32) (B k x : Nat) : Bool := rfB (fun y => wv rows (fun s => nI (dg B k x s)) y k)
theorem wv_congr {rows a b : Nat → Int32} (y : Nat) : ∀ {j : Nat}, (∀ s, s < j → a s = b s) → wv rows a y j = wv rows b y j := by
  intro j
  induction j with
  | zero => intro _; rfl
  | succ j ih => intro h; rw [wv, wv, ih (fun s hs => h s (by omega)), h j (by omega)]
theorem dg_pre {B k j d x N s : Nat} (hB : 0 < B) (hk : j + d = k) (hs : s < j) (h1 : N * B ^ d ≤ x) (h2 : x < (N + 1) * B ^ d) : dg B k x s = dg B j N s := by
  have hp : 0 < B ^ d := Nat.pow_pos hB
  have hx : x / B ^ d = N := by
    apply Nat.div_eq_of_lt_le h1 h2
  unfold dg
  rw [show k - 1 - s = d + (j - 1 - s) by omega, Nat.pow_add, ← Nat.div_div_eq_div_mul, hx]
theorem dg_lt {B k x s : Nat} (hB : 0 < B) : dg B k x s < B := Nat.mod_lt _ hB
/-- what a search over the numbers of a prefix answers -/
def FA (rows : Nat → Int32) (B k lo hi j : Nat) (tr tot : Nat → Int32) (r : Option (Int32 × (Nat → Int32) × (Nat → Int32))) : Prop :=
  (∃ x, lo ≤ x ∧ x < hi ∧ RF rows B k x = true ∧ (∀ y, lo ≤ y → y < x → RF rows B k y = false) ∧ ∃ tr' tot', r = some (1, tr', tot') ∧ (∀ s, s < k → tr' s = nI (dg B k x s)) ∧ ∀ x, x < 5 → tot' x = tot x) ∨
  ((∀ y, lo ≤ y → y < hi → RF rows B k y = false) ∧ ∃ tr' tot', r = some (0, tr', tot') ∧ (∀ s, s < j → tr' s = tr s) ∧ ∀ x, x < 5 → tot' x = tot x)
theorem findFrom9 {rows low high : Nat → Int32} {k m : Nat} (hk : k ≤ 6) (hm : m ≤ 6) (h : AB rows k) (hl : ∀ y, y < 5 → ∀ j, j ≤ k → LHI rows low high k y j) : ∀ (d j N n : Nat) (tr tot : Nat → Int32), j + d = k → d < n → (∀ s, s < j → tr s = nI (dg (m + 1) j N s)) → (∀ x, x < 5 → tot x = wv rows tr x j) → FA rows (m + 1) k (N * (m + 1) ^ d) ((N + 1) * (m + 1) ^ d) j tr tot (oF (fun k z => fr_X6_findFrom k z.1 z.2.1 z.2.2.1 z.2.2.2.1 z.2.2.2.2.1 z.2.2.2.2.2.1 z.2.2.2.2.2.2.1 z.2.2.2.2.2.2.2) n (nI k, rows, tr, tot, low, high, nI j, nI m)) := by
  intro d
  induction d with
  | zero =>
    intro j N n tr tot hjk hn htr htot
    obtain ⟨n, rfl⟩ : ∃ n', n = n' + 1 := ⟨n - 1, by omega⟩
    have hjk' : j = k := by omega
    subst hjk'
    rw [oF_succ]
    dsimp only
    unfold fr_X6_findFrom
    have hw6 : ∀ s, s < j → dg (m + 1) j N s ≤ 6 := fun s hs => by have := dg_lt (k := j) (x := N) (s := s) (show 0 < m + 1 by omega); omega
    have hwv : ∀ x, x < 5 → tot x = wv rows (fun s => nI (dg (m + 1) j N s)) x j := fun x hx => by rw [htot x hx]; exact wv_congr x htr
    have hT : ∀ x, x < 5 → -100000 ≤ (tot x).toInt ∧ (tot x).toInt ≤ 100000 := fun x hx => by
      rw [hwv x hx, wv_toInt hk h hw6 hx j (Nat.le_refl _)]
      have := wI_b h hw6 hx j (Nat.le_refl _)
      constructor <;> omega
    rw [canStill9 hk hm (Nat.le_refl _) h hl hT, oB1_s, CSt_end]
    have hR : rfB tot = RF rows (m + 1) j N := by
      unfold RF rfB
      rw [hwv 0 (by omega), hwv 1 (by omega), hwv 2 (by omega), hwv 3 (by omega), hwv 4 (by omega)]
    rw [hR, Nat.pow_zero, Nat.mul_one, Nat.mul_one, if_neg (show ¬ nI j < nI j by rw [nI_lt_iff (by omega) (by omega)]; omega)]
    cases hRF : RF rows (m + 1) j N
    · rw [if_pos (show bi false = 0 from rfl)]
      refine Or.inr ⟨fun y h1 h2 => ?_, tr, tot, rfl, fun _ _ => rfl, fun _ _ => rfl⟩
      rw [show y = N by omega]; exact hRF
    · rw [if_neg (show ¬ bi true = 0 by decide)]
      exact Or.inl ⟨N, by omega, by omega, hRF, fun y h1 h2 => absurd h2 (by omega), tr, tot, rfl, htr, fun _ _ => rfl⟩
  | succ d ih =>
    intro j N n tr tot hjk hn htr htot
    obtain ⟨n, rfl⟩ : ∃ n', n = n' + 1 := ⟨n - 1, by omega⟩
    rw [oF_succ]
    have key0 := fun (N' : Nat) (tr' tot' : Nat → Int32) => ih (j + 1) N' n tr' tot' (by omega) (by omega)
    generalize oF (fun k z => fr_X6_findFrom k z.1 z.2.1 z.2.2.1 z.2.2.2.1 z.2.2.2.2.1 z.2.2.2.2.2.1 z.2.2.2.2.2.2.1 z.2.2.2.2.2.2.2) n = G at key0 ⊢
    dsimp only
    unfold fr_X6_findFrom
    have hB : 0 < m + 1 := by omega
    have hw6 : ∀ s, s < j → dg (m + 1) j N s ≤ 6 := fun s hs => by have := dg_lt (k := j) (x := N) (s := s) hB; omega
    have hwv : ∀ x, x < 5 → tot x = wv rows (fun s => nI (dg (m + 1) j N s)) x j := fun x hx => by rw [htot x hx]; exact wv_congr x htr
    have hAj : AB rows j := fun s hs => h s (by omega)
    have hT : ∀ x, x < 5 → -100000 ≤ (tot x).toInt ∧ (tot x).toInt ≤ 100000 := fun x hx => by
      rw [hwv x hx, wv_toInt (by omega) hAj hw6 hx j (Nat.le_refl _)]
      have := wI_b hAj hw6 hx j (Nat.le_refl _)
      constructor <;> omega
    rw [canStill9 hk hm (by omega) h hl hT, oB1_s]
    cases hC : CSt tot rows k m j
    · rw [if_pos (show bi false = 0 from rfl)]
      refine Or.inr ⟨fun y h1 h2 => ?_, tr, tot, rfl, fun _ _ => rfl, fun _ _ => rfl⟩
      cases hR : RF rows (m + 1) k y
      · rfl
      · have := CSt_sound hk hm (show j ≤ k by omega) h (T := tot) (w := fun s => dg (m + 1) k y s) (fun s hs => by have := dg_lt (k := k) (x := y) (s := s) hB; show dg (m + 1) k y s ≤ m; omega) (fun x hx => by
          rw [hwv x hx]
          exact wv_congr x (fun s hs => by rw [dg_pre hB hjk hs h1 h2])) hR
        rw [hC] at this
        exact absurd this (by decide)
    · rw [if_neg (show ¬ bi true = 0 by decide), if_pos (show nI j < nI k by rw [nI_lt_iff (by omega) (by omega)]; omega)]
      have hp : 0 < (m + 1) ^ d := Nat.pow_pos hB
      have elo : ∀ c, N * (m + 1) ^ (d + 1) + c * (m + 1) ^ d = (N * (m + 1) + c) * (m + 1) ^ d := fun c => by
        rw [Nat.pow_succ, Nat.add_mul, Nat.mul_assoc, Nat.mul_comm (m + 1)]
      have ehi : (N + 1) * (m + 1) ^ (d + 1) = N * (m + 1) ^ (d + 1) + (m + 1) * (m + 1) ^ d := by
        rw [Nat.add_mul, Nat.one_mul, Nat.pow_succ, Nat.mul_comm ((m + 1) ^ d)]
      have e0 := elo 0
      rw [Nat.zero_mul, Nat.add_zero, Nat.add_zero] at e0
      unfold L_X6_findFrom_23
      refine oF_P0 (σ := (Nat → Int32) × (Nat → Int32) × Int32) (fun c z => z.2.2 = nI c ∧ (∀ s, s < j → z.1 s = tr s) ∧ (∀ x, x < 5 → z.2.1 x = tot x) ∧ ∀ y, N * (m + 1) ^ (d + 1) ≤ y → y < (N * (m + 1) + c) * (m + 1) ^ d → RF rows (m + 1) k y = false) (m + 1) (fun r => FA rows (m + 1) k (N * (m + 1) ^ (d + 1)) ((N + 1) * (m + 1) ^ (d + 1)) j tr tot r) _ ⟨rfl, fun _ _ => rfl, fun _ _ => rfl, fun y h1 h2 => absurd h2 (by rw [← e0]; omega)⟩ (by omega) ?_ ?_
      · rintro c ⟨z1, z2, z3⟩ k' hc ⟨g1, g2, g3, g4⟩ hk'
        dsimp only at g1 g2 g3 g4 ⊢
        subst g1
        unfold b_X6_findFrom_23
        obtain ⟨t1, a1, a2⟩ := addTot9 rows z2 (show j < 8 by omega) (nI c)
        rw [if_neg (by rw [nI_lt_iff (by omega) (by omega)]; omega), oA_n j _ rfl (by omega) (by decide), oL_s, a1, oB1_s, nI_1]
        have hdj : dg (m + 1) (j + 1) (N * (m + 1) + c) j = c := by
          unfold dg
          rw [show j + 1 - 1 - j = 0 by omega, Nat.pow_zero, Nat.div_one, Nat.mul_comm, Nat.mul_add_mod, Nat.mod_eq_of_lt hc]
        have htr' : ∀ s, s < j + 1 → upd z1 j (nI c) s = nI (dg (m + 1) (j + 1) (N * (m + 1) + c) s) := by
          intro s hs
          by_cases e : s = j
          · subst e; rw [upd_s, hdj]
          · rw [upd_n _ _ e, g2 s (by omega), htr s (by omega)]
            have : dg (m + 1) (j + 1) (N * (m + 1) + c) s = dg (m + 1) j N s := dg_pre (d := 1) hB rfl (by omega) (by rw [Nat.pow_one]; omega) (by rw [Nat.pow_one, Nat.add_mul]; omega)
            rw [this]
        have htot' : ∀ x, x < 5 → t1 x = wv rows (upd z1 j (nI c)) x (j + 1) := by
          intro x hx
          rw [a2 x hx, g3 x hx, wv, upd_s, htot x hx]
          congr 1
          exact wv_congr x (fun s hs => by rw [upd_n _ _ (by omega), g2 s hs])
        have key := key0 (N * (m + 1) + c) (upd z1 j (nI c)) t1 htr' htot'
        have est : (N * (m + 1) + c + 1) * (m + 1) ^ d = (N * (m + 1) + (c + 1)) * (m + 1) ^ d := by rw [Nat.add_assoc]
        have hcm := elo (c + 1)
        have hle : (c + 1) * (m + 1) ^ d ≤ (m + 1) * (m + 1) ^ d := Nat.mul_le_mul_right _ (by omega)
        have hlo := elo c
        rcases key with ⟨x, b1, b2, b3, b4, tr2, tot2, b5, b6, b7⟩ | ⟨b1, tr2, tot2, b5, b6, b7⟩
        · rw [b5, oB3_s]
          obtain ⟨t3, a3, a4⟩ := addTot9 rows tot2 (show j < 8 by omega) (-nI c)
          rw [a3, oB1_s, if_neg (by decide)]
          refine Or.inl ⟨x, by omega, by rw [ehi]; rw [est, ← hcm] at b2; omega, b3, fun y h1 h2 => ?_, tr2, t3, rfl, b6, fun y hy => ?_⟩
          · rcases Nat.lt_or_ge y ((N * (m + 1) + c) * (m + 1) ^ d) with hy | hy
            · exact g4 y h1 hy
            · exact b4 y hy h2
          · rw [a4 y hy, b7 y hy, a2 y hy, i32_back, g3 y hy]
        · rw [b5, oB3_s]
          obtain ⟨t3, a3, a4⟩ := addTot9 rows tot2 (show j < 8 by omega) (-nI c)
          rw [a3, oB1_s, if_pos rfl, oL_s, nI_1]
          refine hk' _ ⟨rfl, fun s hs => ?_, fun y hy => ?_, fun y h1 h2 => ?_⟩
          · dsimp only
            rw [b6 s (by omega), upd_n _ _ (by omega), g2 s hs]
          · dsimp only
            rw [a4 y hy, b7 y hy, a2 y hy, i32_back, g3 y hy]
          · rcases Nat.lt_or_ge y ((N * (m + 1) + c) * (m + 1) ^ d) with hy | hy
            · exact g4 y h1 hy
            · exact b1 y hy (by rw [est]; exact h2)
      · rintro ⟨z1, z2, z3⟩ k' ⟨g1, g2, g3, g4⟩
        dsimp only at g1 g2 g3 g4 ⊢
        subst g1
        unfold b_X6_findFrom_23
        rw [if_pos (by rw [nI_lt_iff (by omega) (by omega)]; omega)]
        refine Or.inr ⟨fun y h1 h2 => g4 y h1 ?_, z1, z2, rfl, g2, g3⟩
        rw [ehi] at h2
        rw [← elo]
        exact h2
