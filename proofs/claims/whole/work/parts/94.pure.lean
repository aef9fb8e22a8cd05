/-! parties: a made step of both -/
theorem made57 {n i j v : Nat} (hn : n < 40) (hi : i < n) (hj : j < n) (hv : v < 8) (fp at0 na : Int32) (a b pt o1 o2 by_ : Nat → Int32) : f_X10_takeMade_57 fp at0 (nI v) na (nI n) a b pt o1 o2 by_ (nI n) (nI i) (nI j) 0 = if cmk (a i) (b i) (a j) (b j) (nI v) then some (0, fp, at0, nI v, na, nI (n + 1), upd a n (jn (a i) (a j) (nI v)), upd b n (jn (b i) (b j) (nI v)), upd pt n (-1), upd o1 n (nI i), upd o2 n (nI j), upd by_ n (nI v)) else some (4, na, at0, nI v, na, nI n, a, b, pt, o1, o2, by_) := by
  unfold f_X10_takeMade_57 f_X10_takeMade_153 f_X10_fails
  simp only [oA40 (show i < 40 by omega), oA40 (show j < 40 by omega), oA40 hn, oL_s, nI_1, has10_eq _ (show v < 32 by omega), oB1_s, oB2_s]
  rw [if_pos (show (0 : Int32) ≤ 0 by decide), cmk_bt _ _ _ _ (show v < 32 by omega)]
  change (if bi (bt (a i) v) = 0 then _ else if bi (bt (b j) v) = 0 then _ else if (jn (a i) (a j) (nI v) &&& jn (b i) (b j) (nI v)) = 0 then _ else _) = _
  cases bt (a i) v
  · rw [if_pos (show bi false = 0 from rfl), if_neg (by simp)]
  · rw [if_neg (show ¬ bi true = 0 by decide)]
    cases bt (b j) v
    · rw [if_pos (show bi false = 0 from rfl), if_neg (by simp)]
    · rw [if_neg (show ¬ bi true = 0 by decide)]
      by_cases h3 : (jn (a i) (a j) (nI v) &&& jn (b i) (b j) (nI v)) = 0
      · rw [if_pos h3, if_pos (by simp [h3])]
        rfl
      · rw [if_neg h3, if_neg (by simp [h3])]
theorem made57_f {f : Int32} (hf : ¬ f ≤ 0) (fp at0 num na rs : Int32) (a b pt o1 o2 by_ : Nat → Int32) (x1 x3 x4 : Int32) : f_X10_takeMade_57 fp at0 num na rs a b pt o1 o2 by_ x1 x3 x4 f = some (f, fp, at0, num, na, rs, a, b, pt, o1, o2, by_) := by
  unfold f_X10_takeMade_57; rw [if_neg hf]
theorem made35_f {f : Int32} (hf : ¬ f ≤ 0) (L fp at0 num na rs : Int32) (text a b pt o1 o2 by_ : Nat → Int32) (x1 x3 : Int32) : f_X10_takeMade_35 L fp at0 num na rs text a b pt o1 o2 by_ x1 x3 f = some (f, fp, at0, num, na, rs, a, b, pt, o1, o2, by_) := by
  unfold f_X10_takeMade_35; rw [if_neg hf, made57_f hf]
theorem step84_f (L at_ na f fa : Int32) (letters : Nat → Int32) (n : Int32) (c : Nat → Int32) (x y z : Int32) (hf : ¬ f = 0) : f_X7_readStep_84 L at_ na f fa letters n c x y z = some (at_, na, f, fa, c, n) := by
  unfold f_X7_readStep_84; rw [readEnd_f _ _ _ _ _ hf, oB3_s, if_neg hf]
theorem stepw_ok {letters text : Nat → Int32} {L at_ : Nat} (ht : TR letters text L) (hat : at_ < L) {c a b pt o1 o2 by_ : Nat → Int32} {cl n : Nat} (h : SR c a b pt o1 o2 by_ cl n) (hn : n < cl + 30) (na fa fp num na2 : Int32) : WD L at_ fa fp (oB6 (f_X7_readStep (nI L) (nI at_) na 0 fa letters (nI cl) (nI n) c) (fun at_14 numberAt_15 fault_16 faultAt_17 p1_cells_18 p1_count_19 => some (at_14, numberAt_15, fault_16, faultAt_17, p1_cells_18, nI cl, p1_count_19, lo a b pt 0 cl, lo a b pt 1 cl)))
    (oB12 (f_X10_takeMade (nI L) fp (nI (at_ + 1)) num na2 (nI n) text a b pt o1 o2 by_) (fun r3 faultPlace_4 at0_5 number_6 numberAt_7 readSteps_8 readAs_9 readNot_10 readParty_11 readOne_12 readTwo_13 readBy_14 => f_X10_takeWord_134 (nI L) faultPlace_4 at0_5 number_6 numberAt_7 (nI cl) readSteps_8 text readAs_9 readNot_10 readParty_11 readOne_12 readTwo_13 readBy_14 r3)) := by
  have hh := id h
  obtain ⟨h1, h2, h3, h4, -, -⟩ := h
  have hn40 : n < 40 := by omega
  unfold f_X7_readStep f_X10_takeMade
  rw [nmf_eq h2 (by omega), oB1_s, decide_eq_false (by omega), if_pos (show bi false = 0 from rfl), oL_s, nI_1]
  rcases num_ok ht (show at_ + 1 ≤ L by omega) (hbn (n := n) (by omega)) with ⟨f, p, q, f0, f1, q1, q2, e9, e10⟩ | ⟨i, p, q, hi, -, q1, q2, e9, e10⟩
  · left
    obtain ⟨num', na', e⟩ := e10 fp num na2
    rw [e9, oB5_s, readNumber_f _ _ _ _ _ _ _ f0, oB5_s, readNumber_f _ _ _ _ _ _ _ f0, oB5_s, if_neg f0, step84_f _ _ _ _ _ _ _ _ _ _ _ f0, oB6_s, e, oB5_s, if_neg f1, made35_f f1, oB12_s, word134_f _ _ _ _ _ _ _ _ _ _ _ _ _ _ f0]
    exact ⟨f, q, _, _, _, _, _, _, _, _, _, _, _, _, _, _, _, _, _, _, f0, f1, q2, rfl, rfl⟩
  · rw [e9, oB5_s, e10, oB5_s, if_pos (show (0 : Int32) ≤ 0 by decide)]
    rcases num_ok ht q2 (hbn (n := n) (by omega)) with ⟨f, p', q', f0, f1, q1', q2', e9', e10'⟩ | ⟨j, p', q', hj, -, q1', q2', e9', e10'⟩
    · left
      obtain ⟨num', na', e⟩ := e10' fp (nI i) (nI p)
      rw [e9', oB5_s, readNumber_f _ _ _ _ _ _ _ f0, oB5_s, if_neg f0, step84_f _ _ _ _ _ _ _ _ _ _ _ f0, oB6_s, e, oB5_s, made35_f f1, oB12_s, word134_f _ _ _ _ _ _ _ _ _ _ _ _ _ _ f0]
      exact ⟨f, q', _, _, _, _, _, _, _, _, _, _, _, _, _, _, _, _, _, _, f0, f1, q2', rfl, rfl⟩
    · rw [e9', oB5_s, e10', oB5_s]
      unfold f_X10_takeMade_35
      rw [if_pos (show (0 : Int32) ≤ 0 by decide)]
      rcases num_ok ht q2' hb7 with ⟨f, p'', q'', f0, f1, q1'', q2'', e9'', e10''⟩ | ⟨v, p'', q'', hv, -, q1'', q2'', e9'', e10''⟩
      · left
        obtain ⟨num', na', e⟩ := e10'' fp (nI j) (nI p')
        rw [e9'', oB5_s, if_neg f0, step84_f _ _ _ _ _ _ _ _ _ _ _ f0, oB6_s, e, oB5_s, made57_f f1, oB12_s, word134_f _ _ _ _ _ _ _ _ _ _ _ _ _ _ f0]
        exact ⟨f, q'', _, _, _, _, _, _, _, _, _, _, _, _, _, _, _, _, _, _, f0, f1, q2'', rfl, rfl⟩
      · obtain ⟨ai, bi_, -⟩ := h4 i hi
        obtain ⟨aj, bj, -⟩ := h4 j hj
        rw [e9'', oB5_s, if_pos rfl, canMake9 c (by omega) (by omega), oB1_s, e10'', oB5_s, made57 hn40 hi hj hv, ai, bi_, aj, bj]
        cases cmk (a i) (b i) (a j) (b j) (nI v)
        · left
          unfold f_X7_blame
          rw [if_pos (show bi false = 0 from rfl), oB2_s, step84_f _ _ _ _ _ _ _ _ _ _ _ (show ¬ (4 : Int32) = 0 by decide), oB6_s, if_neg (by decide), oB12_s, word134_f _ _ _ _ _ _ _ _ _ _ _ _ _ _ (show ¬ (4 : Int32) = 0 by decide)]
          exact ⟨4, q'', _, _, _, _, _, _, _, _, _, _, _, _, _, _, _, _, _, _, by decide, by decide, q2'', rfl, rfl⟩
        · rw [if_neg (show ¬ bi true = 0 by decide), if_pos rfl, oB12_s]
          unfold f_X7_readStep_84 f_X10_takeWord_134
          rw [if_pos rfl]
          rcases end_ok ht q2'' with ⟨p2, r1, r2, g9, r, g10, hr⟩ | ⟨p2, r1, r2, g9, g10⟩
          · left
            unfold f_X10_fails
            rw [g9, oB3_s, if_neg (by decide), oB6_s, g10, oB2_s, if_neg hr, oB2_s]
            exact ⟨1, p2, _, _, _, _, _, _, _, _, _, _, _, _, _, _, _, _, _, _, by decide, by decide, r2, rfl, rfl⟩
          · right
            obtain ⟨c', ea, hs⟩ := make_ok hh hn hi hj hv
            unfold f_X10_takeWord_158
            rw [g9, oB3_s, if_pos rfl, ea, oB3_s, oB6_s, g10, oB2_s, if_pos rfl, oL_s, nI_1]
            have hlo : ∀ w, lo (upd a n (jn (a i) (a j) (nI v))) (upd b n (jn (b i) (b j) (nI v))) (upd pt n (-1)) w cl = lo a b pt w cl := fun w => lo_congr w (fun s hs => ⟨upd_n _ _ (by omega), upd_n _ _ (by omega), upd_n _ _ (by omega)⟩)
            exact ⟨p2 + 1, _, _, cl, n + 1, _, _, _, _, _, _, _, _, by omega, by omega, hs, by rw [hlo, hlo], rfl⟩
