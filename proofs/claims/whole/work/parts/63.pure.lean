/-! a step is made -/
theorem oc0 {β : Type} {q : Nat} (h : q + 0 < 320) (f : Nat → Option β) : oA (nI q + (0 : Int32)) 320 f = f (q + 0) := oA_n (q + 0) f (by rw [show (0 : Int32) = nI 0 from rfl, nI_add]) h (by decide)
theorem oc1 {β : Type} {q : Nat} (h : q + 1 < 320) (f : Nat → Option β) : oA (nI q + (1 : Int32)) 320 f = f (q + 1) := oA_n (q + 1) f (by rw [show (1 : Int32) = nI 1 from rfl, nI_add]) h (by decide)
theorem oc2 {β : Type} {q : Nat} (h : q + 2 < 320) (f : Nat → Option β) : oA (nI q + (2 : Int32)) 320 f = f (q + 2) := oA_n (q + 2) f (by rw [show (2 : Int32) = nI 2 from rfl, nI_add]) h (by decide)
theorem oc3 {β : Type} {q : Nat} (h : q + 3 < 320) (f : Nat → Option β) : oA (nI q + (3 : Int32)) 320 f = f (q + 3) := oA_n (q + 3) f (by rw [show (3 : Int32) = nI 3 from rfl, nI_add]) h (by decide)
theorem oc4 {β : Type} {q : Nat} (h : q + 4 < 320) (f : Nat → Option β) : oA (nI q + (4 : Int32)) 320 f = f (q + 4) := oA_n (q + 4) f (by rw [show (4 : Int32) = nI 4 from rfl, nI_add]) h (by decide)
theorem oc5 {β : Type} {q : Nat} (h : q + 5 < 320) (f : Nat → Option β) : oA (nI q + (5 : Int32)) 320 f = f (q + 5) := oA_n (q + 5) f (by rw [show (5 : Int32) = nI 5 from rfl, nI_add]) h (by decide)
theorem oc6 {β : Type} {q : Nat} (h : q + 6 < 320) (f : Nat → Option β) : oA (nI q + (6 : Int32)) 320 f = f (q + 6) := oA_n (q + 6) f (by rw [show (6 : Int32) = nI 6 from rfl, nI_add]) h (by decide)
theorem oc7 {β : Type} {q : Nat} (h : q + 7 < 320) (f : Nat → Option β) : oA (nI q + (7 : Int32)) 320 f = f (q + 7) := oA_n (q + 7) f (by rw [show (7 : Int32) = nI 7 from rfl, nI_add]) h (by decide)
theorem make9 (c : Nat → Int32) {n i j : Nat} (hn : n < 40) (hi : i < n) (hj : j < n) (v : Int32) : ∃ c', f_X5_make (nI n) c (nI i) (nI j) v = some (nI n, c', nI (n + 1)) ∧ (∀ k, k < 8 * n → c' k = c k) ∧ c' (8 * n) = jn (c (8 * i)) (c (8 * j)) v ∧ c' (8 * n + 1) = jn (c (8 * i + 1)) (c (8 * j + 1)) v ∧ c' (8 * n + 2) = -1 ∧ c' (8 * n + 3) = nI i ∧ c' (8 * n + 4) = nI j ∧ c' (8 * n + 5) = v ∧ c' (8 * n + 6) = (c (8 * i + 6) ||| c (8 * j + 6)) ∧ c' (8 * n + 7) = 1 + (if c (8 * i + 7) < c (8 * j + 7) then c (8 * j + 7) else c (8 * i + 7)) := by
  have hi' : i < 40 := by omega
  have hj' : j < 40 := by omega
  have e8 : nI n * (8 : Int32) = nI (8 * n) := by rw [i8, nI_mul, Nat.mul_comm]
  have J0 : ∀ c, f_X5_joined c (nI i) (nI j) 0 v = some (jn (c (8 * i)) (c (8 * j)) v) := fun c => joined0 c hi' hj' v
  have J1 : ∀ c, f_X5_joined c (nI i) (nI j) 1 v = some (jn (c (8 * i + 1)) (c (8 * j + 1)) v) := fun c => joined1 c hi' hj' v
  have C6i : ∀ c, f_X5_cell c (nI i) 6 = some (c (8 * i + 6)) := fun c => cell6 c hi'
  have C6j : ∀ c, f_X5_cell c (nI j) 6 = some (c (8 * j + 6)) := fun c => cell6 c hj'
  have C7i : ∀ c, f_X5_cell c (nI i) 7 = some (c (8 * i + 7)) := fun c => cell7 c hi'
  have C7j : ∀ c, f_X5_cell c (nI j) 7 = some (c (8 * j + 7)) := fun c => cell7 c hj' 
  have ui1_0 : ∀ f y, upd f (8 * n + 0) y (8 * i + 1) = f (8 * i + 1) := fun f y => upd_n f y (by omega)
  have ui1_1 : ∀ f y, upd f (8 * n + 1) y (8 * i + 1) = f (8 * i + 1) := fun f y => upd_n f y (by omega)
  have ui1_2 : ∀ f y, upd f (8 * n + 2) y (8 * i + 1) = f (8 * i + 1) := fun f y => upd_n f y (by omega)
  have ui1_3 : ∀ f y, upd f (8 * n + 3) y (8 * i + 1) = f (8 * i + 1) := fun f y => upd_n f y (by omega)
  have ui1_4 : ∀ f y, upd f (8 * n + 4) y (8 * i + 1) = f (8 * i + 1) := fun f y => upd_n f y (by omega)
  have ui1_5 : ∀ f y, upd f (8 * n + 5) y (8 * i + 1) = f (8 * i + 1) := fun f y => upd_n f y (by omega)
  have ui1_6 : ∀ f y, upd f (8 * n + 6) y (8 * i + 1) = f (8 * i + 1) := fun f y => upd_n f y (by omega)
  have ui1_7 : ∀ f y, upd f (8 * n + 7) y (8 * i + 1) = f (8 * i + 1) := fun f y => upd_n f y (by omega)
  have ui6_0 : ∀ f y, upd f (8 * n + 0) y (8 * i + 6) = f (8 * i + 6) := fun f y => upd_n f y (by omega)
  have ui6_1 : ∀ f y, upd f (8 * n + 1) y (8 * i + 6) = f (8 * i + 6) := fun f y => upd_n f y (by omega)
  have ui6_2 : ∀ f y, upd f (8 * n + 2) y (8 * i + 6) = f (8 * i + 6) := fun f y => upd_n f y (by omega)
  have ui6_3 : ∀ f y, upd f (8 * n + 3) y (8 * i + 6) = f (8 * i + 6) := fun f y => upd_n f y (by omega)
  have ui6_4 : ∀ f y, upd f (8 * n + 4) y (8 * i + 6) = f (8 * i + 6) := fun f y => upd_n f y (by omega)
  have ui6_5 : ∀ f y, upd f (8 * n + 5) y (8 * i + 6) = f (8 * i + 6) := fun f y => upd_n f y (by omega)
  have ui6_6 : ∀ f y, upd f (8 * n + 6) y (8 * i + 6) = f (8 * i + 6) := fun f y => upd_n f y (by omega)
  have ui6_7 : ∀ f y, upd f (8 * n + 7) y (8 * i + 6) = f (8 * i + 6) := fun f y => upd_n f y (by omega)
  have ui7_0 : ∀ f y, upd f (8 * n + 0) y (8 * i + 7) = f (8 * i + 7) := fun f y => upd_n f y (by omega)
  have ui7_1 : ∀ f y, upd f (8 * n + 1) y (8 * i + 7) = f (8 * i + 7) := fun f y => upd_n f y (by omega)
  have ui7_2 : ∀ f y, upd f (8 * n + 2) y (8 * i + 7) = f (8 * i + 7) := fun f y => upd_n f y (by omega)
  have ui7_3 : ∀ f y, upd f (8 * n + 3) y (8 * i + 7) = f (8 * i + 7) := fun f y => upd_n f y (by omega)
  have ui7_4 : ∀ f y, upd f (8 * n + 4) y (8 * i + 7) = f (8 * i + 7) := fun f y => upd_n f y (by omega)
  have ui7_5 : ∀ f y, upd f (8 * n + 5) y (8 * i + 7) = f (8 * i + 7) := fun f y => upd_n f y (by omega)
  have ui7_6 : ∀ f y, upd f (8 * n + 6) y (8 * i + 7) = f (8 * i + 7) := fun f y => upd_n f y (by omega)
  have ui7_7 : ∀ f y, upd f (8 * n + 7) y (8 * i + 7) = f (8 * i + 7) := fun f y => upd_n f y (by omega)
  have uj1_0 : ∀ f y, upd f (8 * n + 0) y (8 * j + 1) = f (8 * j + 1) := fun f y => upd_n f y (by omega)
  have uj1_1 : ∀ f y, upd f (8 * n + 1) y (8 * j + 1) = f (8 * j + 1) := fun f y => upd_n f y (by omega)
  have uj1_2 : ∀ f y, upd f (8 * n + 2) y (8 * j + 1) = f (8 * j + 1) := fun f y => upd_n f y (by omega)
  have uj1_3 : ∀ f y, upd f (8 * n + 3) y (8 * j + 1) = f (8 * j + 1) := fun f y => upd_n f y (by omega)
  have uj1_4 : ∀ f y, upd f (8 * n + 4) y (8 * j + 1) = f (8 * j + 1) := fun f y => upd_n f y (by omega)
  have uj1_5 : ∀ f y, upd f (8 * n + 5) y (8 * j + 1) = f (8 * j + 1) := fun f y => upd_n f y (by omega)
  have uj1_6 : ∀ f y, upd f (8 * n + 6) y (8 * j + 1) = f (8 * j + 1) := fun f y => upd_n f y (by omega)
  have uj1_7 : ∀ f y, upd f (8 * n + 7) y (8 * j + 1) = f (8 * j + 1) := fun f y => upd_n f y (by omega)
  have uj6_0 : ∀ f y, upd f (8 * n + 0) y (8 * j + 6) = f (8 * j + 6) := fun f y => upd_n f y (by omega)
  have uj6_1 : ∀ f y, upd f (8 * n + 1) y (8 * j + 6) = f (8 * j + 6) := fun f y => upd_n f y (by omega)
  have uj6_2 : ∀ f y, upd f (8 * n + 2) y (8 * j + 6) = f (8 * j + 6) := fun f y => upd_n f y (by omega)
  have uj6_3 : ∀ f y, upd f (8 * n + 3) y (8 * j + 6) = f (8 * j + 6) := fun f y => upd_n f y (by omega)
  have uj6_4 : ∀ f y, upd f (8 * n + 4) y (8 * j + 6) = f (8 * j + 6) := fun f y => upd_n f y (by omega)
  have uj6_5 : ∀ f y, upd f (8 * n + 5) y (8 * j + 6) = f (8 * j + 6) := fun f y => upd_n f y (by omega)
  have uj6_6 : ∀ f y, upd f (8 * n + 6) y (8 * j + 6) = f (8 * j + 6) := fun f y => upd_n f y (by omega)
  have uj6_7 : ∀ f y, upd f (8 * n + 7) y (8 * j + 6) = f (8 * j + 6) := fun f y => upd_n f y (by omega)
  have uj7_0 : ∀ f y, upd f (8 * n + 0) y (8 * j + 7) = f (8 * j + 7) := fun f y => upd_n f y (by omega)
  have uj7_1 : ∀ f y, upd f (8 * n + 1) y (8 * j + 7) = f (8 * j + 7) := fun f y => upd_n f y (by omega)
  have uj7_2 : ∀ f y, upd f (8 * n + 2) y (8 * j + 7) = f (8 * j + 7) := fun f y => upd_n f y (by omega)
  have uj7_3 : ∀ f y, upd f (8 * n + 3) y (8 * j + 7) = f (8 * j + 7) := fun f y => upd_n f y (by omega)
  have uj7_4 : ∀ f y, upd f (8 * n + 4) y (8 * j + 7) = f (8 * j + 7) := fun f y => upd_n f y (by omega)
  have uj7_5 : ∀ f y, upd f (8 * n + 5) y (8 * j + 7) = f (8 * j + 7) := fun f y => upd_n f y (by omega)
  have uj7_6 : ∀ f y, upd f (8 * n + 6) y (8 * j + 7) = f (8 * j + 7) := fun f y => upd_n f y (by omega)
  have uj7_7 : ∀ f y, upd f (8 * n + 7) y (8 * j + 7) = f (8 * j + 7) := fun f y => upd_n f y (by omega)
  unfold f_X5_make
  simp only [oL_s, e8, J0, J1, C6i, C6j, C7i, C7j, oB1_s, oc0 (q := 8 * n) (by omega), oc1 (q := 8 * n) (by omega), oc2 (q := 8 * n) (by omega), oc3 (q := 8 * n) (by omega), oc4 (q := 8 * n) (by omega), oc5 (q := 8 * n) (by omega), oc6 (q := 8 * n) (by omega), oc7 (q := 8 * n) (by omega), nI_1 n, ui1_0, ui1_1, ui1_2, ui1_3, ui1_4, ui1_5, ui1_6, ui1_7, ui6_0, ui6_1, ui6_2, ui6_3, ui6_4, ui6_5, ui6_6, ui6_7, ui7_0, ui7_1, ui7_2, ui7_3, ui7_4, ui7_5, ui7_6, ui7_7, uj1_0, uj1_1, uj1_2, uj1_3, uj1_4, uj1_5, uj1_6, uj1_7, uj6_0, uj6_1, uj6_2, uj6_3, uj6_4, uj6_5, uj6_6, uj6_7, uj7_0, uj7_1, uj7_2, uj7_3, uj7_4, uj7_5, uj7_6, uj7_7]
  refine ⟨_, rfl, fun k hk => ?_, ?_, ?_, ?_, ?_, ?_, ?_, ?_, ?_⟩
  · rw [upd_n _ _ (by omega), upd_n _ _ (by omega), upd_n _ _ (by omega), upd_n _ _ (by omega), upd_n _ _ (by omega), upd_n _ _ (by omega), upd_n _ _ (by omega), upd_n _ _ (by omega)]
  · rw [upd_n _ _ (by omega), upd_n _ _ (by omega), upd_n _ _ (by omega), upd_n _ _ (by omega), upd_n _ _ (by omega), upd_n _ _ (by omega), upd_n _ _ (by omega), show 8 * n + 0 = 8 * n from rfl, upd_s]
  · rw [upd_n _ _ (by omega), upd_n _ _ (by omega), upd_n _ _ (by omega), upd_n _ _ (by omega), upd_n _ _ (by omega), upd_n _ _ (by omega), upd_s]
  · rw [upd_n _ _ (by omega), upd_n _ _ (by omega), upd_n _ _ (by omega), upd_n _ _ (by omega), upd_n _ _ (by omega), upd_s]
  · rw [upd_n _ _ (by omega), upd_n _ _ (by omega), upd_n _ _ (by omega), upd_n _ _ (by omega), upd_s]
  · rw [upd_n _ _ (by omega), upd_n _ _ (by omega), upd_n _ _ (by omega), upd_s]
  · rw [upd_n _ _ (by omega), upd_n _ _ (by omega), upd_s]
  · rw [upd_n _ _ (by omega), upd_s]
  · rw [upd_s]
theorem make10 (a b pt o1 o2 by_ : Nat → Int32) {n i j : Nat} (hn : n < 40) (hi : i < n) (hj : j < n) (v : Int32) : f_X10_make (nI n) a b pt o1 o2 by_ (nI i) (nI j) v = some (nI (n + 1), upd a n (jn (a i) (a j) v), upd b n (jn (b i) (b j) v), upd pt n (-1), upd o1 n (nI i), upd o2 n (nI j), upd by_ n v) := by
  unfold f_X10_make
  simp only [oA40 (show i < 40 by omega), oA40 (show j < 40 by omega), oA40 hn, oL_s, nI_1]
  rfl
theorem SR_make {c c' a b pt o1 o2 by_ : Nat → Int32} {cl n i j v : Nat} (h : SR c a b pt o1 o2 by_ cl n) (hn : n < cl + 30) (hi : i < n) (hj : j < n) (hv : v < 8) (g0 : ∀ k, k < 8 * n → c' k = c k) (g1 : c' (8 * n) = jn (c (8 * i)) (c (8 * j)) (nI v)) (g2 : c' (8 * n + 1) = jn (c (8 * i + 1)) (c (8 * j + 1)) (nI v)) (g3 : c' (8 * n + 2) = -1) (g4 : c' (8 * n + 3) = nI i) (g5 : c' (8 * n + 4) = nI j) (g6 : c' (8 * n + 5) = nI v) (g7 : c' (8 * n + 6) = (c (8 * i + 6) ||| c (8 * j + 6))) (g8 : c' (8 * n + 7) = 1 + (if c (8 * i + 7) < c (8 * j + 7) then c (8 * j + 7) else c (8 * i + 7))) :
    SR c' (upd a n (jn (a i) (a j) (nI v))) (upd b n (jn (b i) (b j) (nI v))) (upd pt n (-1)) (upd o1 n (nI i)) (upd o2 n (nI j)) (upd by_ n (nI v)) cl (n + 1) := by
  obtain ⟨h1, h2, h3, h4, h5, h6⟩ := h
  obtain ⟨ai, bi_, -, -, -, -, Bai, Bbi⟩ := h4 i hi
  obtain ⟨aj, bj, -, -, -, -, Baj, Bbj⟩ := h4 j hj
  refine ⟨h1, by omega, by omega, fun s hs => ?_, fun s hs => ?_, fun s hs hs2 => ?_⟩
  · by_cases e : s = n
    · subst e
      simp only [upd_s]
      rw [g1, g2, g3, g4, g5, g6, ai, aj, bi_, bj]
      exact ⟨rfl, rfl, rfl, rfl, rfl, rfl, B8_jn Bai Baj _, B8_jn Bbi Bbj _⟩
    · simp only [upd_n _ _ e]
      rw [g0 _ (by omega), g0 _ (by omega), g0 _ (by omega), g0 _ (by omega), g0 _ (by omega), g0 _ (by omega)]
      exact h4 s (by omega)
  · rw [upd_n _ _ (by omega), g0 _ (by omega), g0 _ (by omega)]
    exact h5 s hs
  · by_cases e : s = n
    · subst e
      refine ⟨i, j, v, hi, hj, hv, upd_s _ _ _, upd_s _ _ _, upd_s _ _ _, ?_, ?_⟩
      · rw [g7, g0 _ (by omega), g0 _ (by omega)]
      · rw [g8, g0 _ (by omega), g0 _ (by omega)]
    · obtain ⟨i0, j0, v0, q1, q2, q3, q4, q5, q6, q7, q8⟩ := h6 s hs (by omega)
      refine ⟨i0, j0, v0, q1, q2, q3, ?_, ?_, ?_, ?_, ?_⟩
      · rw [upd_n _ _ e]; exact q4
      · rw [upd_n _ _ e]; exact q5
      · rw [upd_n _ _ e]; exact q6
      · rw [g0 _ (by omega), g0 _ (by omega), g0 _ (by omega)]; exact q7
      · rw [g0 _ (by omega), g0 _ (by omega), g0 _ (by omega)]; exact q8
theorem make_ok {c a b pt o1 o2 by_ : Nat → Int32} {cl n i j v : Nat} (h : SR c a b pt o1 o2 by_ cl n) (hn : n < cl + 30) (hi : i < n) (hj : j < n) (hv : v < 8) : ∃ c', f_X5_make (nI n) c (nI i) (nI j) (nI v) = some (nI n, c', nI (n + 1)) ∧ SR c' (upd a n (jn (a i) (a j) (nI v))) (upd b n (jn (b i) (b j) (nI v))) (upd pt n (-1)) (upd o1 n (nI i)) (upd o2 n (nI j)) (upd by_ n (nI v)) cl (n + 1) := by
  obtain ⟨c', e, g0, g1, g2, g3, g4, g5, g6, g7, g8⟩ := make9 c (by have := h.1; omega) hi hj (nI v)
  exact ⟨c', e, SR_make h hn hi hj hv g0 g1 g2 g3 g4 g5 g6 g7 g8⟩
theorem nmf_eq {cl n : Nat} (h1 : cl ≤ n) (h2 : n < 2 ^ 31) : f_X5_noneMoreFits (nI cl) (nI n) = some (bi (decide (30 ≤ n - cl))) := by
  unfold f_X5_noneMoreFits
  rw [pk_sub h1, i30]
  by_cases h : 30 ≤ n - cl
  · rw [if_neg (by rw [nI_lt_iff (by omega) (by omega)]; omega), decide_eq_true h]; rfl
  · rw [if_pos (by rw [nI_lt_iff (by omega) (by omega)]; omega), decide_eq_false h]; rfl
theorem isFull_eq {cl n : Nat} (h1 : cl ≤ n) (h2 : n < 2 ^ 31) (h3 : n ≤ cl + 30) : f_X10_isFull (nI cl) (nI n) = some (bi (decide (30 ≤ n - cl))) := by
  unfold f_X10_isFull
  rw [pk_sub h1, i30]
  by_cases h : 30 ≤ n - cl
  · rw [if_pos (by rw [nI_inj (by omega) (by omega)]; omega), decide_eq_true h]; rfl
  · rw [if_neg (by rw [nI_inj (by omega) (by omega)]; omega), decide_eq_false h]; rfl
theorem oB7_s {α1 α2 α3 α4 α5 α6 α7 β : Type} (x1 : α1) (x2 : α2) (x3 : α3) (x4 : α4) (x5 : α5) (x6 : α6) (x7 : α7) (k : α1 → α2 → α3 → α4 → α5 → α6 → α7 → Option β) : oB7 (some (x1, x2, x3, x4, x5, x6, x7)) k = k x1 x2 x3 x4 x5 x6 x7 := rfl
theorem resolve_ok {c a b pt o1 o2 by_ mb bf : Nat → Int32} {cl n u : Nat} (h : SR c a b pt o1 o2 by_ cl n) (hm : MR mb bf u cl n) (x y z : Int32) : ∃ r c' a' b' pt' o1' o2' by' n' mb' bf' u', f_X9_resolve (nI u) mb (nI cl) (nI n) c x y z = some (r, mb', nI u', c', nI n') ∧ f_X10_resolve (nI cl) (nI n) (nI u) a b pt o1 o2 by_ bf x y z = some (r, nI n', a', b', pt', o1', o2', by', nI u', bf') ∧ SR c' a' b' pt' o1' o2' by' cl n' ∧ MR mb' bf' u' cl n' ∧ ∀ s, s < cl → a s = a' s ∧ b s = b' s ∧ pt s = pt' s := by
  have hh := id h
  obtain ⟨h1, h2, h3, h4, -, -⟩ := h
  have same : ∀ r : Int32, ∃ r' c' a' b' pt' o1' o2' by' n' mb' bf' u', (some (r, mb, nI u, c, nI n) : Option _) = some (r', mb', nI u', c', nI n') ∧ (some (r, nI n, a, b, pt, o1, o2, by_, nI u, bf) : Option _) = some (r', nI n', a', b', pt', o1', o2', by', nI u', bf') ∧ SR c' a' b' pt' o1' o2' by' cl n' ∧ MR mb' bf' u' cl n' ∧ ∀ s, s < cl → a s = a' s ∧ b s = b' s ∧ pt s = pt' s := fun r => ⟨r, c, a, b, pt, o1, o2, by_, n, mb, bf, u, rfl, rfl, hh, hm, fun s _ => ⟨rfl, rfl, rfl⟩⟩
  unfold f_X9_resolve f_X10_resolve
  rw [isStep_eq (by omega), isStep_eq (by omega), isLetter_eq, nmf_eq h2 (by omega), isFull_eq h2 (by omega) h3]
  rcases i_cases x n (by omega) with ⟨i, hi, rfl⟩ | hx
  · rw [has_in hi (by omega), oB1_s, oB1_s]
    simp only [show ¬ (1 : Int32) = 0 by decide, if_false]
    rcases i_cases y n (by omega) with ⟨j, hj, rfl⟩ | hy
    · rw [has_in hj (by omega), oB1_s, oB1_s]
      simp only [show ¬ (1 : Int32) = 0 by decide, if_false]
      by_cases hij : nI i = nI j
      · simp only [hij, if_true]; exact same _
      · simp only [hij, if_false]
        rcases i_cases z 8 (by omega) with ⟨v, hv, rfl⟩ | hz
        · rw [show f_X9_within (nI v) 0 7 = some 1 from wi_in (m := 7) (by omega) (by decide), oB1_s, oB1_s]
          simp only [show ¬ (1 : Int32) = 0 by decide, if_false]
          obtain ⟨ai, bi_, -⟩ := h4 i hi
          obtain ⟨aj, bj, -⟩ := h4 j hj
          rw [canMake9 c (by omega) (by omega), canMake10 a b (by omega) (by omega) (by omega), oB1_s, oB1_s, ai, bi_, aj, bj]
          cases hcm : cmk (a i) (b i) (a j) (b j) (nI v)
          · simp only [show bi false = 0 from rfl, if_true]; exact same _
          · simp only [show ¬ bi true = 0 by decide, if_false, oB1_s]
            by_cases hf : 30 ≤ n - cl
            · rw [decide_eq_true hf]; simp only [show ¬ bi true = 0 by decide, if_false]; exact same _
            · rw [decide_eq_false hf]
              simp only [show bi false = 0 from rfl, if_true]
              obtain ⟨mb', bf', u', e1, e2, e3⟩ := marks_add (n' := n + 1) hm h2 (by omega)
              obtain ⟨c', e4, e5⟩ := make_ok hh (by omega) hi hj hv
              rw [e1, e2, e4, make10 a b pt o1 o2 by_ (by omega) hi hj]
              simp only [oB2_s, oB3_s, oB7_s, nI_pred]
              exact ⟨_, _, _, _, _, _, _, _, _, _, _, _, rfl, rfl, e5, e3, fun s hs => ⟨(upd_n _ _ (by omega)).symm, (upd_n _ _ (by omega)).symm, (upd_n _ _ (by omega)).symm⟩⟩
        · rw [show f_X9_within z 0 7 = some 0 from wi_out (m := 7) (by decide) hz, oB1_s, oB1_s]
          simp only [if_true]; exact same _
    · rw [has_out hy, oB1_s, oB1_s]
      simp only [if_true]; exact same _
  · rw [has_out hx, oB1_s, oB1_s]
    simp only [if_true]; exact same _
