/-! parties: readNumber -/
theorem dv_b {text : Nat → Int32} {p : Nat} : ∀ j, j ≤ 3 → (∀ i, i < j → fig (text (p + i)) = true) → dv text p j < 10 ^ j := by
  intro j
  induction j with
  | zero => intro _ _; exact (show (0 : Nat) < 10 ^ 0 by decide)
  | succ j ih =>
    intro hj h
    have h1 := ih (by omega) (fun i hi => h i (by omega))
    have h2 : 10 ^ j ≤ 10 ^ 2 := Nat.pow_le_pow_right (by decide) (by omega)
    have h3 := (dv_step (h j (by omega)) (by omega)).2
    rw [Nat.pow_succ]
    omega
theorem readNumber9 {letters text : Nat → Int32} {L at_ p q b : Nat} {hi : Int32} (hL : L ≤ 240) (hl : ∀ i, i < L → letters i = text i) (h1 : at_ ≤ p) (h2 : p ≤ L) (h3 : ∀ i, at_ ≤ i → i < p → text i = 32) (h4 : p < L → ¬ text p = 32) (k1 : p ≤ q) (k2 : q ≤ L) (k3 : ∀ i, p ≤ i → i < q → fig (text i) = true) (k4 : q < L → fig (text q) = false) (hh : ∀ x, x < 1000 → (nI x ≤ hi ↔ x < b)) (na fa : Int32) : f_X7_readNumber (nI L) (nI at_) na 0 fa letters hi = some (if q = p then (0, nI p, nI p, 1, nI p) else if q - p ≤ 3 ∧ dv text p (q - p) < b then (nI (dv text p (q - p)), nI q, nI p, 0, fa) else (0, nI q, nI p, 2, nI p)) := by
  unfold f_X7_readNumber
  rw [if_pos rfl, skip9 hL hl h1 h2 h3 h4, oB1_s]
  unfold L_X7_readNumber_23
  have hb : ∀ j, j ≤ 3 → j ≤ q - p → dv text p j < 1000 := fun j hj hj2 => by
    have := dv_b (text := text) (p := p) j hj (fun i hi => k3 _ (by omega) (by omega))
    have h9 : 10 ^ j ≤ 10 ^ 3 := Nat.pow_le_pow_right (by decide) hj
    omega
  refine oF_run0 (fun i => (nI (p + i), nI (dv text p (min i 3)))) (q - p) _ rfl (by omega) ?_ ?_
  · intro i hi' k
    dsimp only
    unfold b_X7_readNumber_23 f_X7_readNumber_80
    have e : nI (p + i) - nI p = nI i := by rw [Nat.add_comm, ← nI_add, Int32.add_sub_cancel]
    rw [if_neg (by rw [nI_le_iff (by omega) (by omega)]; omega), oA_n (p + i) _ rfl (by omega) (by decide), isFigure9, oB1_s, hl _ (by omega), k3 _ (by omega) (by omega), if_neg (show ¬ bi true = 0 by decide), e]
    by_cases hi3 : 3 ≤ i
    · rw [if_pos (by rw [i3, nI_le_iff (by omega) (by omega)]; exact hi3), oL_s, nI_1, Nat.min_eq_right hi3, Nat.min_eq_right (show 3 ≤ i + 1 by omega)]
      rfl
    · rw [if_neg (by rw [i3, nI_le_iff (by omega) (by omega)]; exact hi3), oA_n (p + i) _ rfl (by omega) (by decide), hl _ (by omega), oL_s, oL_s, nI_1, Nat.min_eq_left (show i ≤ 3 by omega), Nat.min_eq_left (show i + 1 ≤ 3 by omega), (dv_step (k3 _ (by omega) (by omega)) (hb i (by omega) (by omega))).1]
      rfl
  · intro k
    dsimp only
    rw [show p + (q - p) = q by omega]
    have e : nI q - nI p = nI (q - p) := by rw [show q = q - p + p by omega, ← nI_add, Int32.add_sub_cancel, show q - p + p - p = q - p by omega]
    have hstop : b_X7_readNumber_23 (nI L) (nI p) 0 fa letters hi k (nI q) (nI (dv text p (min (q - p) 3))) = f_X7_readNumber_93 (nI q) (nI p) 0 fa hi (nI (dv text p (min (q - p) 3))) := by
      unfold b_X7_readNumber_23
      by_cases hq : q < L
      · rw [if_neg (by rw [nI_le_iff (by omega) (by omega)]; omega), oA_n q _ rfl (by omega) (by decide), isFigure9, oB1_s, hl _ hq, k4 hq, if_pos (show bi false = 0 from rfl)]
      · rw [if_pos (by rw [nI_le_iff (by omega) (by omega)]; omega)]
    rw [hstop]
    unfold f_X7_readNumber_93 f_X7_readNumber_129 f_X7_readNumber_138 f_X7_blame
    rw [oL_s, e, oB2_s, oB2_s]
    by_cases q0 : q = p
    · rw [if_pos (by rw [q0, Nat.sub_self]; rfl), if_pos q0, if_neg (by decide), q0]
    · rw [if_neg (by rw [i0, nI_inj (by omega) (by omega)]; omega), if_neg q0]
      by_cases q3 : q - p ≤ 3
      · rw [if_neg (by rw [i3, nI_lt_iff (by omega) (by omega)]; omega), Nat.min_eq_left q3]
        have := hb (q - p) q3 (Nat.le_refl _)
        by_cases qh : dv text p (q - p) < b
        · rw [if_pos ((hh _ this).mpr qh), if_pos rfl, if_pos ⟨q3, qh⟩]
        · rw [if_neg (fun hx => qh ((hh _ this).mp hx)), if_neg (by decide), if_neg (fun hx => qh hx.2)]
      · rw [if_pos (by rw [i3, nI_lt_iff (by omega) (by omega)]; omega), if_neg (by decide), if_neg (fun hx => q3 hx.1)]
