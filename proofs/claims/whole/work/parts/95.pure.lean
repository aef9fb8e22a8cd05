/-! parties: a word of both -/
theorem word48 (at0 num na rc rs : Int32) (a b pt o1 o2 by_ : Nat → Int32) : f_X10_takeWord_48 at0 num na rc rs a b pt o1 o2 by_ = some (1, at0, at0, num, na, rc, rs, a, b, pt, o1, o2, by_) := rfl
theorem word88 (at0 num na rc rs : Int32) (a b pt o1 o2 by_ : Nat → Int32) : f_X10_takeWord_88 at0 num na rc rs a b pt o1 o2 by_ = some (3, at0, at0, num, na, rc, rs, a, b, pt, o1, o2, by_) := rfl
theorem word79 (at_ na cl n la lb : Int32) (c : Nat → Int32) : f_X7_readWord_79 at_ na cl n la lb c = some (at_, na, 1, at_, c, cl, n, la, lb) := rfl
theorem readClause_full (L at_ na f fa : Int32) (letters c : Nat → Int32) (n la lb who : Int32) : f_X7_readClause L at_ na f fa letters 10 n la lb c who = some (at_, na, 3, at_, c, 10, n, la, lb) := by
  unfold f_X7_readClause f_X7_blame
  rw [if_neg (by decide), oB2_s]
theorem id9 {R : Option (Int32 × Int32 × Int32 × Int32 × (Nat → Int32) × Int32 × Int32 × Int32 × Int32)} : oB9 R (fun x1 x2 x3 x4 x5 x6 x7 x8 x9 => some (x1, x2, x3, x4, x5, x6, x7, x8, x9)) = R := by
  cases R with
  | none => rfl
  | some r => rfl
theorem word_ok {letters text : Nat → Int32} {L at1 at_ : Nat} (ht : TR letters text L) (h1 : at1 ≤ at_) (hat : at_ < L) (h3 : ∀ i, at1 ≤ i → i < at_ → text i = 32) (h4 : ¬ text at_ = 32) {c a b pt o1 o2 by_ : Nat → Int32} {cl n : Nat} (h : SR c a b pt o1 o2 by_ cl n) (na fa fp num na2 : Int32) : WD L at_ fa fp (f_X7_readWord (nI L) (nI at_) na 0 fa letters (nI cl) (nI n) (lo a b pt 0 cl) (lo a b pt 1 cl) c) (f_X10_takeWord (nI L) fp (nI at1) num na2 (nI cl) (nI n) text a b pt o1 o2 by_) := by
  have hh := id h
  have hL := ht.1
  obtain ⟨g1, g2, g3, -, -, -⟩ := h
  unfold f_X7_readWord f_X10_takeWord
  rw [here10 ht.1 h1 (by omega) h3 (fun _ => h4), oB2_s, if_pos hat, oA_n at_ _ rfl (by omega) (by decide), oL_s, (ht.2 at_ hat).1]
  have clause : ∀ (x who : Int32), (who = 0 ∨ who = 1) → n = cl → WD L at_ fa fp (f_X7_readClause (nI L) (nI at_) na 0 fa letters (nI cl) (nI n) (lo a b pt 0 cl) (lo a b pt 1 cl) c who) (if nI cl = (10 : Int32) then f_X10_takeWord_88 (nI at_) num na2 (nI cl) (nI n) a b pt o1 o2 by_ else f_X10_takeWord_124 (nI L) fp (nI (at_ + 1)) num na2 (nI cl) (nI n) text a b pt o1 o2 by_ who) := by
    intro x who hw e
    subst e
    by_cases e10 : nI n = (10 : Int32)
    · left
      rw [if_pos e10, e10, readClause_full, word88]
      exact ⟨3, at_, _, _, _, _, _, _, _, _, _, _, _, _, _, _, _, _, _, _, by decide, by decide, by omega, rfl, rfl⟩
    · rw [if_neg e10]
      refine clause_ok ht hat hh ?_ hw na fa fp num na2
      rcases Nat.lt_or_ge n 10 with hx | hx
      · exact hx
      · exact absurd (show nI n = nI 10 by rw [show n = 10 by omega]) e10
  have blame : WD L at_ fa fp (f_X7_readWord_79 (nI at_) na (nI cl) (nI n) (lo a b pt 0 cl) (lo a b pt 1 cl) c) (f_X10_takeWord_48 (nI at_) num na2 (nI cl) (nI n) a b pt o1 o2 by_) := by
    left
    rw [word79, word48]
    exact ⟨1, at_, _, _, _, _, _, _, _, _, _, _, _, _, _, _, _, _, _, _, by decide, by decide, by omega, rfl, rfl⟩
  have hle : nI n ≤ nI cl ↔ n = cl := by rw [nI_le_iff (by omega) (by omega)]; omega
  have heq : nI n = nI cl ↔ n = cl := nI_inj (by omega) (by omega)
  have z10 : ¬ (1 : Int32) = 0 := by decide
  generalize text at_ = x
  by_cases x97 : x = 97
  · subst x97
    rw [if_pos rfl]
    unfold f_X10_takeWord_17 f_X10_takeWord_22 f_X10_takeWord_33 f_X7_readWord_26
    rw [if_neg (show ¬ (97 : Int32) = 114 by decide), if_neg z10, if_neg z10, if_neg (show ¬ (97 : Int32) = 114 by decide), if_neg (show ¬ (97 : Int32) = 114 by decide), if_pos rfl, if_pos rfl, if_pos rfl, if_neg z10]
    by_cases e : n = cl
    · rw [if_pos (heq.mpr e), if_pos (hle.mpr e), id9]
      unfold f_X10_takeWord_58 f_X10_takeWord_98
      rw [if_neg z10, oL_s, if_neg z10, if_pos rfl, nI_1]
      exact clause 97 0 (Or.inl rfl) e
    · rw [if_neg (fun hx => e (heq.mp hx)), if_neg (fun hx => e (hle.mp hx))]
      unfold f_X7_readWord_60
      rw [if_neg (show ¬ (97 : Int32) = 98 by decide)]
      exact blame
  · rw [if_neg x97]
    by_cases x98 : x = 98
    · subst x98
      rw [if_pos rfl]
      unfold f_X10_takeWord_17 f_X10_takeWord_22 f_X10_takeWord_33 f_X7_readWord_26 f_X7_readWord_60
      rw [if_neg (show ¬ (98 : Int32) = 114 by decide), if_neg z10, if_neg z10, if_neg (show ¬ (98 : Int32) = 114 by decide), if_neg (show ¬ (98 : Int32) = 114 by decide), if_neg (show ¬ (98 : Int32) = 97 by decide), if_neg (show ¬ (98 : Int32) = 97 by decide), if_pos rfl, if_pos rfl, if_pos rfl, if_neg z10]
      by_cases e : n = cl
      · rw [if_pos (heq.mpr e), if_pos (hle.mpr e), id9]
        unfold f_X10_takeWord_58 f_X10_takeWord_98
        rw [if_neg z10, oL_s, if_neg z10, if_neg (show ¬ (98 : Int32) = 97 by decide), nI_1]
        exact clause 98 1 (Or.inr rfl) e
      · rw [if_neg (fun hx => e (heq.mp hx)), if_neg (fun hx => e (hle.mp hx))]
        exact blame
    · rw [if_neg x98]
      by_cases x114 : x = 114
      · subst x114
        unfold f_X10_takeWord_22 f_X10_takeWord_33 f_X10_takeWord_58 f_X7_readWord_26
        rw [if_pos rfl, if_pos rfl, if_pos rfl, if_pos rfl, if_pos rfl, ite_self, pk_sub g2]
        by_cases e : n - cl = 30
        · left
          rw [if_pos (by rw [e]; rfl), word88]
          unfold f_X7_readStep f_X7_blame
          rw [nmf_eq g2 (by omega), oB1_s, decide_eq_true (by omega), if_neg (show ¬ bi true = 0 by decide), oB2_s, oB6_s]
          exact ⟨3, at_, _, _, _, _, _, _, _, _, _, _, _, _, _, _, _, _, _, _, by decide, by decide, by omega, rfl, rfl⟩
        · rw [if_neg (by rw [i30, nI_inj (by omega) (by omega)]; exact e)]
          unfold f_X10_takeWord_98
          rw [oL_s, if_pos rfl, nI_1]
          exact stepw_ok ht hat hh (by omega) na fa fp num na2
      · unfold f_X10_takeWord_22 f_X7_readWord_26 f_X7_readWord_60
        rw [if_neg x114, if_pos rfl, if_neg x114, if_neg x114, if_neg x97, if_neg x97, if_neg x98, if_neg x98, ite_self]
        exact blame
