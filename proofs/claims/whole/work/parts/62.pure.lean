/-! rows, marks, steps made -/
theorem i_out_ne {x : Int32} {n k : Nat} (hn : n < 2 ^ 31) (h : x < 0 ∨ nI n ≤ x) (hk : k < n) : ¬ x = nI k := by
  intro e
  subst e
  rcases h with h | h
  · exact nI_pos (by omega) h
  · rw [nI_le_iff hn (by omega)] at h; omega
theorem max_eq (x y : Int32) : (if x ≤ y then 1 + y else 1 + x) = (1 : Int32) + (if x < y then y else x) := by
  by_cases h1 : x < y
  · rw [if_pos h1, if_pos (by rw [lt_toInt] at h1; rw [le_toInt]; omega)]
  · rw [if_neg h1]
    by_cases h2 : x ≤ y
    · rw [if_pos h2]
      have : x = y := Int32.toInt_inj.mp (by rw [lt_toInt] at h1; rw [le_toInt] at h2; omega)
      rw [this]
    · rw [if_neg h2]
theorem layStands_ok {c a b pt o1 o2 by_ : Nat → Int32} {cl n : Nat} (h : SR c a b pt o1 o2 by_ cl n) (st lg : Nat → Int32) : ∃ st' lg', f_X10_layStands (nI cl) (nI n) o1 o2 st lg = some (st', lg') ∧ ∀ k, k < n → st' k = c (8 * k + 6) ∧ lg' k = c (8 * k + 7) := by
  obtain ⟨h1, h2, h3, h4, h5, h6⟩ := h
  unfold f_X10_layStands L_X10_layStands_2
  refine oF_P0 (σ := (Nat → Int32) × (Nat → Int32) × Int32) (β := (Nat → Int32) × (Nat → Int32)) (fun i z => z.2.2 = nI i ∧ ∀ k, k < i → z.1 k = c (8 * k + 6) ∧ z.2.1 k = c (8 * k + 7)) n (fun r => ∃ st' lg', r = some (st', lg') ∧ ∀ k, k < n → st' k = c (8 * k + 6) ∧ lg' k = c (8 * k + 7)) _ ⟨rfl, fun k hk => absurd hk (by omega)⟩ (by omega) ?_ ?_
  · rintro i ⟨s1, l1, x⟩ k hi ⟨hx, hI⟩ hk
    dsimp only at hx hI ⊢
    subst hx
    unfold b_X10_layStands_2 f_X10_layStands_23 f_X10_layStands_62 f_X10_layStands_82 f_X10_layStands_102 f_X10_layStands_122
    rw [if_neg (by rw [nI_le_iff (by omega) (by omega)]; omega)]
    rcases Nat.lt_or_ge i cl with hc | hc
    · rw [if_pos (by rw [nI_lt_iff (by omega) (by omega)]; exact hc)]
      obtain ⟨-, g1, g2⟩ := h5 i hc
      simp only [if_true, oA40 (show i < 40 by omega), oL_s, nI_1, show (0 : Int32) ≤ 0 by decide]
      refine hk _ ⟨rfl, fun q hq => ?_⟩
      dsimp only
      by_cases e : q = i
      · subst e; rw [upd_s, upd_s, g1, g2]; exact ⟨rfl, rfl⟩
      · rw [upd_n _ _ e, upd_n _ _ e]; exact hI q (by omega)
    · rw [if_neg (by rw [nI_lt_iff (by omega) (by omega)]; omega)]
      obtain ⟨i0, j0, v0, q1, q2, q3, q4, q5, q6, q7, q8⟩ := h6 i hc hi
      simp only [show ¬ (1 : Int32) = 0 by decide, if_false, oA40 (show i < 40 by omega), q4, q5, oA40 (show i0 < 40 by omega), oA40 (show j0 < 40 by omega), oL_s, nI_1]
      rw [show (if l1 i0 ≤ l1 j0 then k (upd s1 i (s1 i0 ||| s1 j0), upd l1 i (1 + l1 j0), nI (i + 1)) else k (upd s1 i (s1 i0 ||| s1 j0), upd l1 i (1 + l1 i0), nI (i + 1))) = k (upd s1 i (s1 i0 ||| s1 j0), upd l1 i (if l1 i0 ≤ l1 j0 then 1 + l1 j0 else 1 + l1 i0), nI (i + 1)) from by by_cases hh : l1 i0 ≤ l1 j0 <;> simp only [hh, if_true, if_false]]
      refine hk _ ⟨rfl, fun q hq => ?_⟩
      dsimp only
      by_cases e : q = i
      · subst e
        rw [upd_s, upd_s, max_eq, (hI i0 (by omega)).1, (hI j0 (by omega)).1, (hI i0 (by omega)).2, (hI j0 (by omega)).2, q7, q8]
        exact ⟨rfl, rfl⟩
      · rw [upd_n _ _ e, upd_n _ _ e]; exact hI q (by omega)
  · rintro ⟨s1, l1, x⟩ k ⟨hx, hI⟩
    dsimp only at hx hI ⊢
    subst hx
    unfold b_X10_layStands_2
    rw [if_pos (by rw [nI_le_iff (by omega) (by omega)]; omega)]
    exact ⟨_, _, rfl, hI⟩
theorem step_ok {c a b pt o1 o2 by_ : Nat → Int32} {cl n : Nat} (h : SR c a b pt o1 o2 by_ cl n) (st lg : Nat → Int32) (x y : Int32) : ∃ r st' lg', f_X9_step (nI n) c x y = some r ∧ f_X10_step (nI cl) (nI n) a b pt o1 o2 by_ st lg x y = some (r, st', lg') := by
  have hh := id h
  obtain ⟨h1, h2, h3, h4, h5, h6⟩ := h
  obtain ⟨st', lg', e1, e2⟩ := layStands_ok hh st lg
  unfold f_X9_step f_X10_step
  rw [isStep_eq (by omega), e1]
  rcases i_cases x n (by omega) with ⟨s, hs, rfl⟩ | hx
  · rw [has_in hs (by omega), oB1_s, oB1_s, oB2_s]
    simp only [show ¬ (1 : Int32) = 0 by decide, if_false]
    obtain ⟨g0, g1, g2, g3, g4, g5, -, -⟩ := h4 s hs
    obtain ⟨g6, g7⟩ := e2 s hs
    rcases i_cases y 8 (by omega) with ⟨w, hw, rfl⟩ | hy
    · rw [show f_X9_within (nI w) 0 7 = some 1 from wi_in (m := 7) (by omega) (by decide), oB1_s]
      simp only [show ¬ (1 : Int32) = 0 by decide, if_false]
      rw [cell_eq c (by omega) hw, oB1_s]
      rcases (show w = 0 ∨ w = 1 ∨ w = 2 ∨ w = 3 ∨ w = 4 ∨ w = 5 ∨ w = 6 ∨ w = 7 by omega) with rfl | rfl | rfl | rfl | rfl | rfl | rfl | rfl
      · exact ⟨c (8 * s + 0), st', lg', rfl, by rw [if_pos (show nI 0 = 0 from rfl), oA40 (by omega), ← g0]; rfl⟩
      · exact ⟨c (8 * s + 1), st', lg', rfl, by rw [if_neg (show ¬ nI 1 = 0 by decide), if_pos (show nI 1 = 1 from rfl), oA40 (by omega), ← g1]⟩
      · exact ⟨c (8 * s + 2), st', lg', rfl, by rw [if_neg (show ¬ nI 2 = 0 by decide), if_neg (show ¬ nI 2 = 1 by decide), if_pos (show nI 2 = 2 from rfl), oA40 (by omega), ← g2]⟩
      · exact ⟨c (8 * s + 3), st', lg', rfl, by rw [if_neg (show ¬ nI 3 = 0 by decide), if_neg (show ¬ nI 3 = 1 by decide), if_neg (show ¬ nI 3 = 2 by decide), if_pos (show nI 3 = 3 from rfl), oA40 (by omega), ← g3]⟩
      · exact ⟨c (8 * s + 4), st', lg', rfl, by rw [if_neg (show ¬ nI 4 = 0 by decide), if_neg (show ¬ nI 4 = 1 by decide), if_neg (show ¬ nI 4 = 2 by decide), if_neg (show ¬ nI 4 = 3 by decide), if_pos (show nI 4 = 4 from rfl), oA40 (by omega), ← g4]⟩
      · exact ⟨c (8 * s + 5), st', lg', rfl, by rw [if_neg (show ¬ nI 5 = 0 by decide), if_neg (show ¬ nI 5 = 1 by decide), if_neg (show ¬ nI 5 = 2 by decide), if_neg (show ¬ nI 5 = 3 by decide), if_neg (show ¬ nI 5 = 4 by decide), if_pos (show nI 5 = 5 from rfl), oA40 (by omega), ← g5]⟩
      · exact ⟨c (8 * s + 6), st', lg', rfl, by rw [if_neg (show ¬ nI 6 = 0 by decide), if_neg (show ¬ nI 6 = 1 by decide), if_neg (show ¬ nI 6 = 2 by decide), if_neg (show ¬ nI 6 = 3 by decide), if_neg (show ¬ nI 6 = 4 by decide), if_neg (show ¬ nI 6 = 5 by decide), if_pos (show nI 6 = 6 from rfl), oA40 (by omega), g6]⟩
      · exact ⟨c (8 * s + 7), st', lg', rfl, by rw [if_neg (show ¬ nI 7 = 0 by decide), if_neg (show ¬ nI 7 = 1 by decide), if_neg (show ¬ nI 7 = 2 by decide), if_neg (show ¬ nI 7 = 3 by decide), if_neg (show ¬ nI 7 = 4 by decide), if_neg (show ¬ nI 7 = 5 by decide), if_neg (show ¬ nI 7 = 6 by decide), if_pos (show nI 7 = 7 from rfl), oA40 (by omega), g7]⟩
    · rw [show f_X9_within y 0 7 = some 0 from wi_out (m := 7) (by decide) hy, oB1_s]
      exact ⟨-1000000002, st', lg', rfl, by rw [if_neg (show ¬ y = 0 from i_out_ne (k := 0) (by decide) hy (by decide)), if_neg (show ¬ y = 1 from i_out_ne (k := 1) (by decide) hy (by decide)), if_neg (show ¬ y = 2 from i_out_ne (k := 2) (by decide) hy (by decide)), if_neg (show ¬ y = 3 from i_out_ne (k := 3) (by decide) hy (by decide)), if_neg (show ¬ y = 4 from i_out_ne (k := 4) (by decide) hy (by decide)), if_neg (show ¬ y = 5 from i_out_ne (k := 5) (by decide) hy (by decide)), if_neg (show ¬ y = 6 from i_out_ne (k := 6) (by decide) hy (by decide)), if_neg (show ¬ y = 7 from i_out_ne (k := 7) (by decide) hy (by decide))]⟩
  · rw [has_out hx, oB1_s, oB1_s]
    exact ⟨_, _, _, rfl, rfl⟩
/-- what can be undone -/
def MR (mb bf : Nat → Int32) (u cl n : Nat) : Prop := u ≤ 8 ∧ ∃ v : Nat → Nat, (∀ k, k < u → mb k = nI (v k) ∧ bf k = nI (v k) ∧ cl ≤ v k ∧ v k ≤ n) ∧ ∀ k, k + 1 < u → v k ≤ v (k + 1)
theorem MR_0 (mb bf : Nat → Int32) (cl n : Nat) : MR mb bf 0 cl n := ⟨by omega, fun _ => 0, fun k h => absurd h (by omega), fun k h => absurd h (by omega)⟩
theorem remember_full (bf : Nat → Int32) (m : Int32) : f_X10_remember (nI 8) bf m = some (nI 8, upd (fun j => if j < 7 then bf (j + 1) else bf j) 7 m) := by
  unfold f_X10_remember L_X10_remember_11
  rw [if_pos (show nI 8 = 8 from rfl)]
  refine oF_run0 (fun i => ((fun j => if j < i then bf (j + 1) else bf j), nI (i + 1))) 7 _ (by simp; rfl) (by omega) ?_ ?_
  · intro i hi k
    show b_X10_remember_11 _ _ k (fun j => if j < i then bf (j + 1) else bf j) (nI (i + 1)) = _
    unfold b_X10_remember_11
    rw [if_neg (by rw [i8, nI_le_iff (by omega) (by omega)]; omega), oA_n (i + 1) _ rfl (by omega) (by omega), nI_pred, oA_n i _ rfl (by omega) (by omega)]
    simp only [oL_s, nI_1]
    congr 2
    funext j
    by_cases e : j = i
    · subst e; rw [upd_s]; rw [if_neg (by omega), if_pos (by omega)]
    · rw [upd_n _ _ e]
      by_cases e2 : j < i
      · simp [e2, show j < i + 1 by omega]
      · simp [e2, show ¬ j < i + 1 by omega]
  · intro k
    show b_X10_remember_11 _ _ k (fun j => if j < 7 then bf (j + 1) else bf j) (nI 8) = _
    unfold b_X10_remember_11 f_X10_remember_47
    rw [if_pos (show (8 : Int32) ≤ nI 8 by decide), oL_s, show nI 8 - 1 = nI 7 from nI_pred 7, oA_n 7 _ rfl (by decide) (by decide)]
    rfl
theorem marks_add {mb bf : Nat → Int32} {u cl n n' : Nat} (h : MR mb bf u cl n) (hc : cl ≤ n) (hn : n ≤ n') : ∃ mb' bf' u', f_X2_add (nI u) mb (nI n) = some (mb', nI u') ∧ f_X10_remember (nI u) bf (nI n) = some (nI u', bf') ∧ MR mb' bf' u' cl n' := by
  obtain ⟨h8, v, hv, hs⟩ := h
  rcases Nat.lt_or_ge u 8 with hu | hu
  · unfold f_X2_add f_X2_add_34 f_X10_remember f_X10_remember_47
    have e8 : ¬ nI u = 8 := by rw [i8, nI_inj (by omega) (by omega)]; omega
    rw [if_neg e8, if_neg e8, oA_n u _ rfl hu (by decide), oA_n u _ rfl hu (by decide)]
    simp only [oL_s, nI_1]
    refine ⟨_, _, _, rfl, rfl, by omega, fun k => if k = u then n else v k, fun k hk => ?_, fun k hk => ?_⟩
    · by_cases e : k = u
      · subst e; rw [upd_s, upd_s]; simp only [if_true]; exact ⟨trivial, trivial, hc, hn⟩
      · rw [upd_n _ _ e, upd_n _ _ e]; simp only [e, if_false]
        obtain ⟨q1, q2, q3, q4⟩ := hv k (by omega)
        exact ⟨q1, q2, q3, by omega⟩
    · simp only [show ¬ k = u by omega, if_false]
      by_cases e : k + 1 = u
      · simp only [e, if_true]; exact (hv k (by omega)).2.2.2
      · simp only [e, if_false]; exact hs k (by omega)
  · have e8 : u = 8 := by omega
    subst e8
    rw [remember_full]
    unfold f_X2_add f_X2_add_34 oC
    rw [if_pos (show nI 8 = 8 from rfl), if_pos (by decide)]
    simp only [oL_s, show nI 8 - 1 = nI 7 from nI_pred 7]
    rw [oA_n 7 _ rfl (by decide) (by decide)]
    simp only [nI_1]
    refine ⟨_, _, 8, rfl, rfl, by omega, fun k => if k = 7 then n else v (k + 1), fun k hk => ?_, fun k hk => ?_⟩
    · by_cases e : k = 7
      · subst e; rw [upd_s, upd_s]; simp only [if_true]; exact ⟨trivial, trivial, hc, hn⟩
      · rw [upd_n _ _ e, upd_n _ _ e]; simp only [e, if_false]
        obtain ⟨q1, q2, q3, q4⟩ := hv (k + 1) (by omega)
        refine ⟨?_, ?_, q3, by omega⟩
        · rw [← q1]
          show va_cpy mb mb 1 0 7 k = _
          rw [pk_cpy_in (by omega) (by omega), show 1 + (k - 0) = k + 1 by omega]
        · rw [if_pos (by omega)]; exact q2
    · simp only [show ¬ k = 7 by omega, if_false]
      by_cases e : k + 1 = 7
      · have : k = 6 := by omega
        subst this
        simp only [if_true]
        exact (hv 7 (by omega)).2.2.2
      · simp only [e, if_false]; exact hs (k + 1) (by omega)
theorem SR_less {c a b pt o1 o2 by_ : Nat → Int32} {cl n n' : Nat} (h : SR c a b pt o1 o2 by_ cl n) (h1 : cl ≤ n') (h2 : n' ≤ n) : SR c a b pt o1 o2 by_ cl n' := by
  obtain ⟨g1, g2, g3, g4, g5, g6⟩ := h
  exact ⟨g1, h1, by omega, fun s hs => g4 s (by omega), g5, fun s hs hs2 => g6 s hs (by omega)⟩
theorem undo_ok {mb bf : Nat → Int32} {u cl n : Nat} (h : MR mb bf u cl n) : ∃ r u' n', f_X9_undo (nI u) mb (nI n) = some (r, nI u', nI n') ∧ f_X10_undo (nI n) (nI u) bf = some (r, nI n', nI u') ∧ MR mb bf u' cl n' ∧ n' ≤ n ∧ (cl ≤ n → cl ≤ n') := by
  obtain ⟨h8, v, hv, hs⟩ := h
  unfold f_X9_undo f_X10_undo f_X2_takeLatest
  rcases Nat.eq_zero_or_pos u with hu | hu
  · subst hu
    rw [if_pos (show nI 0 = 0 from rfl), if_pos (show nI 0 = 0 from rfl)]
    exact ⟨_, 0, n, rfl, rfl, ⟨by omega, v, hv, hs⟩, by omega, fun h => h⟩
  · obtain ⟨q, rfl⟩ : ∃ q, u = q + 1 := ⟨u - 1, by omega⟩
    have e0 : ¬ nI (q + 1) = 0 := nI_ne0 (by omega) (by omega)
    obtain ⟨q1, q2, q3, q4⟩ := hv q (by omega)
    rw [if_neg e0, if_neg e0, nI_pred, oL_s, oL_s, oA_n q _ rfl (by omega) (by decide), oA_n q _ rfl (by omega) (by decide)]
    simp only [oL_s, oB2_s, q1, q2]
    refine ⟨_, q, v q, rfl, rfl, ⟨by omega, v, fun k hk => ?_, fun k hk => hs k (by omega)⟩, q4, fun _ => q3⟩
    obtain ⟨w1, w2, w3, w4⟩ := hv k (by omega)
    refine ⟨w1, w2, w3, ?_⟩
    have mono : ∀ d, k + d ≤ q → v k ≤ v (k + d) := by
      intro d
      induction d with
      | zero => intro _; exact Nat.le_refl _
      | succ d ih => intro hd; exact Nat.le_trans (ih (by omega)) (hs (k + d) (by omega))
    have := mono (q - k) (by omega)
    rwa [show k + (q - k) = q by omega] at this
