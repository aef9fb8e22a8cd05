/-! parties: a clause of both -/
/-- a word read by both: a fault alike, or steps alike -/
def WD (L at_ : Nat) (fa fp : Int32) (R9 : Option (Int32 × Int32 × Int32 × Int32 × (Nat → Int32) × Int32 × Int32 × Int32 × Int32)) (R10 : Option (Int32 × Int32 × Int32 × Int32 × Int32 × Int32 × Int32 × (Nat → Int32) × (Nat → Int32) × (Nat → Int32) × (Nat → Int32) × (Nat → Int32) × (Nat → Int32))) : Prop :=
  (∃ (f : Int32) (q : Nat) (na' fa' : Int32) (c' : Nat → Int32) (cl' n' la' lb' at2 num na2 rc rs : Int32) (a' b' pt' o1' o2' by' : Nat → Int32), ¬ f = 0 ∧ ¬ f ≤ 0 ∧ q ≤ L ∧ R9 = some (nI q, na', f, fa', c', cl', n', la', lb') ∧ R10 = some (f, fa', at2, num, na2, rc, rs, a', b', pt', o1', o2', by')) ∨
  (∃ (q : Nat) (na' : Int32) (c' : Nat → Int32) (cl' n' : Nat) (num na2 : Int32) (a' b' pt' o1' o2' by' : Nat → Int32), at_ < q ∧ q ≤ L ∧ SR c' a' b' pt' o1' o2' by' cl' n' ∧ R9 = some (nI q, na', 0, fa, c', nI cl', nI n', lo a' b' pt' 0 cl', lo a' b' pt' 1 cl') ∧ R10 = some (0, fp, nI q, num, na2, nI cl', nI n', a', b', pt', o1', o2', by'))
theorem ite5 {A : Type} (w : Int32) (C : A) (p q a1 a2 b1 b2 : Int32) : (if w = 0 then some (C, p, q, a1, b1) else some (C, p, q, a2, b2)) = some (C, p, q, if w = 0 then a1 else a2, if w = 0 then b1 else b2) := by
  by_cases h : w = 0
  · rw [if_pos h, if_pos h, if_pos h]
  · rw [if_neg h, if_neg h, if_neg h]
theorem addClause9 (c : Nat → Int32) {n : Nat} (hn : n < 40) (la lb who x y : Int32) : ∃ c', f_X5_addClause (nI n) (nI n) la lb c who x y = some (c', nI (n + 1), nI (n + 1), if who = 0 then la ||| (x ||| y) else la, if who = 0 then lb else lb ||| (x ||| y)) ∧ (∀ k, k < 8 * n → c' k = c k) ∧ c' (8 * n) = x ∧ c' (8 * n + 1) = y ∧ c' (8 * n + 2) = who ∧ c' (8 * n + 3) = -1 ∧ c' (8 * n + 4) = -1 ∧ c' (8 * n + 5) = -1 ∧ c' (8 * n + 6) = (1 : Int32) <<< (nI n &&& 31) ∧ c' (8 * n + 7) = 1 := by
  have e8 : nI n * (8 : Int32) = nI (8 * n) := by rw [i8, nI_mul, Nat.mul_comm]
  unfold f_X5_addClause f_X5_addClause_127
  simp only [oL_s, e8, oc0 (q := 8 * n) (by omega), oc1 (q := 8 * n) (by omega), oc2 (q := 8 * n) (by omega), oc3 (q := 8 * n) (by omega), oc4 (q := 8 * n) (by omega), oc5 (q := 8 * n) (by omega), oc6 (q := 8 * n) (by omega), oc7 (q := 8 * n) (by omega), nI_1 n]
  rw [ite5]
  refine ⟨_, rfl, fun k hk => ?_, ?_, ?_, ?_, ?_, ?_, ?_, ?_, ?_⟩
  · rw [upd_n _ _ (by omega), upd_n _ _ (by omega), upd_n _ _ (by omega), upd_n _ _ (by omega), upd_n _ _ (by omega), upd_n _ _ (by omega), upd_n _ _ (by omega), upd_n _ _ (by omega)]
  · rw [upd_n _ _ (by omega), upd_n _ _ (by omega), upd_n _ _ (by omega), upd_n _ _ (by omega), upd_n _ _ (by omega), upd_n _ _ (by omega), upd_n _ _ (by omega), show 8 * n + 0 = 8 * n from rfl, upd_s]
  · rw [upd_n _ _ (by omega), upd_n _ _ (by omega), upd_n _ _ (by omega), upd_n _ _ (by omega), upd_n _ _ (by omega), upd_n _ _ (by omega), upd_s]
  · rw [upd_n _ _ (by omega), upd_n _ _ (by omega), upd_n _ _ (by omega), upd_n _ _ (by omega), upd_n _ _ (by omega), upd_s]
  · rw [upd_n _ _ (by omega), upd_n _ _ (by omega), upd_n _ _ (by omega), upd_n _ _ (by omega), upd_s]
  · rw [upd_n _ _ (by omega), upd_n _ _ (by omega), upd_n _ _ (by omega), upd_s]
  · rw [upd_n _ _ (by omega), upd_n _ _ (by omega), upd_s]
  · rw [upd_n _ _ (by omega), upd_s]
  · rw [upd_s]
theorem lo_upd {a b pt : Nat → Int32} {n : Nat} (who x y w : Int32) : lo (upd a n x) (upd b n y) (upd pt n w) who (n + 1) = lo a b pt who n ||| (if w = who then x ||| y else 0) := by
  show lo (upd a n x) (upd b n y) (upd pt n w) who n ||| (if upd pt n w n = who then upd a n x n ||| upd b n y n else 0) = _
  rw [upd_s, upd_s, upd_s, lo_congr who (as' := a) (not' := b) (party' := pt) (fun s hs => ⟨upd_n _ _ (by omega), upd_n _ _ (by omega), upd_n _ _ (by omega)⟩)]
theorem or_0 (x : Int32) : x ||| 0 = x := by apply b_ext; intro i _; rw [b_or, b_0, Bool.or_false]
theorem addClause_ok {c a b pt o1 o2 by_ : Nat → Int32} {cl : Nat} (h : SR c a b pt o1 o2 by_ cl cl) (hcl : cl < 10) {who : Int32} (hw : who = 0 ∨ who = 1) {x y : Nat} (hx : x < 256) (hy : y < 256) : ∃ c', f_X5_addClause (nI cl) (nI cl) (lo a b pt 0 cl) (lo a b pt 1 cl) c who (nI x) (nI y) = some (c', nI (cl + 1), nI (cl + 1), lo (upd a cl (nI x)) (upd b cl (nI y)) (upd pt cl who) 0 (cl + 1), lo (upd a cl (nI x)) (upd b cl (nI y)) (upd pt cl who) 1 (cl + 1)) ∧ SR c' (upd a cl (nI x)) (upd b cl (nI y)) (upd pt cl who) (upd o1 cl (-1)) (upd o2 cl (-1)) (upd by_ cl (-1)) (cl + 1) (cl + 1) := by
  obtain ⟨c', e, g0, g1, g2, g3, g4, g5, g6, g7, g8⟩ := addClause9 c (n := cl) (by omega) (lo a b pt 0 cl) (lo a b pt 1 cl) who (nI x) (nI y)
  obtain ⟨h1, h2, h3, h4, h5, h6⟩ := h
  refine ⟨c', ?_, by omega, by omega, by omega, fun s hs => ?_, fun s hs => ?_, fun s hs hs2 => absurd hs2 (by omega)⟩
  · rw [e, lo_upd, lo_upd]
    rcases hw with rfl | rfl
    · rw [if_pos rfl, if_pos rfl, if_pos rfl, if_neg (show ¬ (0 : Int32) = 1 by decide), or_0]
    · rw [if_neg (show ¬ (1 : Int32) = 0 by decide), if_neg (show ¬ (1 : Int32) = 0 by decide), if_neg (show ¬ (1 : Int32) = 0 by decide), if_pos rfl, or_0]
  · by_cases es : s = cl
    · subst es
      simp only [upd_s]
      exact ⟨g1, g2, g3, g4, g5, g6, B8_nI hx, B8_nI hy⟩
    · simp only [upd_n _ _ es]
      rw [g0 _ (by omega), g0 _ (by omega), g0 _ (by omega), g0 _ (by omega), g0 _ (by omega), g0 _ (by omega)]
      exact h4 s (by omega)
  · by_cases es : s = cl
    · subst es
      rw [upd_s]
      exact ⟨hw, g7, g8⟩
    · rw [upd_n _ _ es, g0 _ (by omega), g0 _ (by omega)]
      exact h5 s (by omega)
theorem clauseOf69 {cl : Nat} (hcl : cl < 10) (fp at0 num na : Int32) (a b pt o1 o2 by_ : Nat → Int32) (who s : Int32) : f_X10_takeClauseOf_69 fp at0 num na (nI cl) (nI cl) a b pt o1 o2 by_ who (nI cl) s = some (s, fp, at0, num, na, nI (cl + 1), nI (cl + 1), a, upd b cl num, upd pt cl who, upd o1 cl (-1), upd o2 cl (-1), upd by_ cl (-1)) := by
  unfold f_X10_takeClauseOf_69
  simp only [oA40 (show cl < 40 by omega), oL_s, nI_1]
theorem word134_f (L fp at0 num na rc rs : Int32) (text a b pt o1 o2 by_ : Nat → Int32) {f : Int32} (hf : ¬ f = 0) : f_X10_takeWord_134 L fp at0 num na rc rs text a b pt o1 o2 by_ f = some (f, fp, at0 + 1, num, na, rc, rs, a, b, pt, o1, o2, by_) := by
  unfold f_X10_takeWord_134 f_X10_takeWord_158
  rw [if_neg hf, oL_s]
theorem clause_ok {letters text : Nat → Int32} {L at_ : Nat} (ht : TR letters text L) (hat : at_ < L) {c a b pt o1 o2 by_ : Nat → Int32} {cl : Nat} (h : SR c a b pt o1 o2 by_ cl cl) (hcl : cl < 10) {who : Int32} (hw : who = 0 ∨ who = 1) (na fa fp num na2 : Int32) : WD L at_ fa fp (f_X7_readClause (nI L) (nI at_) na 0 fa letters (nI cl) (nI cl) (lo a b pt 0 cl) (lo a b pt 1 cl) c who) (f_X10_takeWord_124 (nI L) fp (nI (at_ + 1)) num na2 (nI cl) (nI cl) text a b pt o1 o2 by_ who) := by
  unfold f_X7_readClause f_X10_takeWord_124 f_X10_takeClauseOf
  rw [if_pos (by rw [i10, nI_lt_iff (by omega) (by omega)]; exact hcl), oL_s, nI_1]
  rcases num_ok ht (show at_ + 1 ≤ L by omega) hb255 with ⟨f, p, q, f0, f1, q1, q2, e9, e10⟩ | ⟨v, p, q, hv, -, q1, q2, e9, e10⟩
  · left
    obtain ⟨num', na', e⟩ := e10 fp num na2
    rw [e9, oB5_s, readNumber_f _ _ _ _ _ _ _ f0, oB5_s, if_pos (show ((0 : Int32) &&& 0) = 0 by decide), e, oB5_s, oA40 (show cl < 40 by omega), oL_s, if_neg f1]
    unfold f_X7_readClause_62 f_X10_takeClauseOf_40
    rw [readEnd_f _ _ _ _ _ f0, oB3_s, if_neg f0, if_neg f0, clauseOf69 hcl, oB13_s, word134_f _ _ _ _ _ _ _ _ _ _ _ _ _ _ f0]
    exact ⟨f, q, _, _, _, _, _, _, _, _, _, _, _, _, _, _, _, _, _, _, f0, f1, q2, rfl, rfl⟩
  · rw [e9, oB5_s, e10, oB5_s, oA40 (show cl < 40 by omega), oL_s, if_pos (show (0 : Int32) ≤ 0 by decide)]
    rcases num_ok ht q2 hb255 with ⟨f, p', q', f0, f1, q1', q2', e9', e10'⟩ | ⟨v', p', q', hv', -, q1', q2', e9', e10'⟩
    · left
      obtain ⟨num', na', e⟩ := e10' fp (nI v) (nI p)
      have ez : (nI v &&& (0 : Int32)) = 0 := by apply b_ext; intro i _; rw [b_and, b_0, Bool.and_false]
      rw [e9', oB5_s, if_pos ez, e, oB5_s]
      unfold f_X7_readClause_62 f_X10_takeClauseOf_40
      rw [readEnd_f _ _ _ _ _ f0, oB3_s, if_neg f0, if_neg f0, clauseOf69 hcl, oB13_s, word134_f _ _ _ _ _ _ _ _ _ _ _ _ _ _ f0]
      exact ⟨f, q', _, _, _, _, _, _, _, _, _, _, _, _, _, _, _, _, _, _, f0, f1, q2', rfl, rfl⟩
    · rw [e9', oB5_s, e10', oB5_s]
      unfold f_X10_takeClauseOf_40
      rw [if_pos rfl, oA40 (show cl < 40 by omega), upd_s]
      by_cases hz : (nI v &&& nI v') = 0
      · rw [if_pos hz, if_pos hz, clauseOf69 hcl, oB13_s]
        unfold f_X7_readClause_62 f_X10_takeWord_134
        rw [if_pos rfl]
        rcases end_ok ht q2' with ⟨p2, r1, r2, g9, r, g10, hr⟩ | ⟨p2, r1, r2, g9, g10⟩
        · left
          unfold f_X10_fails
          rw [g9, oB3_s, if_neg (by decide), g10, oB2_s, if_neg hr, oB2_s]
          exact ⟨1, p2, _, _, _, _, _, _, _, _, _, _, _, _, _, _, _, _, _, _, by decide, by decide, r2, rfl, rfl⟩
        · right
          obtain ⟨c', ea, hs⟩ := addClause_ok h hcl hw hv hv'
          unfold f_X10_takeWord_158
          rw [g9, oB3_s, if_pos rfl, ea, oB5_s, g10, oB2_s, if_pos rfl, oL_s, nI_1]
          exact ⟨p2 + 1, _, _, _, _, _, _, _, _, _, _, _, _, by omega, by omega, hs, rfl, rfl⟩
      · left
        unfold f_X7_blame f_X10_fails
        rw [if_neg hz, if_neg hz, oB2_s, oB2_s, oB13_s, word134_f _ _ _ _ _ _ _ _ _ _ _ _ _ _ (show ¬ (4 : Int32) = 0 by decide)]
        unfold f_X7_readClause_62
        rw [readEnd_f _ _ _ _ _ (show ¬ (4 : Int32) = 0 by decide), oB3_s, if_neg (by decide)]
        exact ⟨4, q', _, _, _, _, _, _, _, _, _, _, _, _, _, _, _, _, _, _, by decide, by decide, q2', rfl, rfl⟩
