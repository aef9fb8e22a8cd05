theorem oB8_s {α1 α2 α3 α4 α5 α6 α7 α8 β : Type} (x1 : α1) (x2 : α2) (x3 : α3) (x4 : α4) (x5 : α5) (x6 : α6) (x7 : α7) (x8 : α8) (k : α1 → α2 → α3 → α4 → α5 → α6 → α7 → α8 → Option β) : oB8 (some (x1, x2, x3, x4, x5, x6, x7, x8)) k = k x1 x2 x3 x4 x5 x6 x7 x8 := rfl
/-- the class: both ways by all letters -/
theorem makeOfBoth9 {c : Nat → Int32} {cl n : Nat} {R : RW} (h : SRR c R cl n) (hn : n < cl + 30) {i j : Nat} (hi : i < n) (hj : j < n) : ∃ c', f_X5_makeOfBoth (nI cl) (nI n) c (nI i) (nI j) = some (bi (fl cl (n, R, false) i j 8).2.2, c', nI (fl cl (n, R, false) i j 8).1) ∧ SRR c' (fl cl (n, R, false) i j 8).2.1 cl (fl cl (n, R, false) i j 8).1 := by
  have h0 : okS cl (n, R, false) := ⟨h.1, h.2.1, h.2.2.1, fun _ => hn⟩
  unfold f_X5_makeOfBoth L_X5_makeOfBoth_2
  generalize hS : ((n, R, false) : AS) = S at h0 ⊢
  have hSn : S.1 = n := by rw [← hS]
  refine oF_P0 (σ := Int32 × (Nat → Int32) × Int32) (β := Int32 × (Nat → Int32) × Int32) (fun v z => (fl cl S i j v).2.2 = false ∧ z.1 = nI (fl cl S i j v).1 ∧ SRR z.2.1 (fl cl S i j v).2.1 cl (fl cl S i j v).1 ∧ z.2.2 = nI v) 8 (fun r => ∃ c', r = some (bi (fl cl S i j 8).2.2, c', nI (fl cl S i j 8).1) ∧ SRR c' (fl cl S i j 8).2.1 cl (fl cl S i j 8).1) _ ⟨by rw [← hS]; rfl, by rw [← hS]; rfl, by rw [← hS]; exact h, rfl⟩ (by omega) ?_ ?_
  · rintro v ⟨z1, z2, z3⟩ k hv ⟨he, hz1, hz2, hz3⟩ hk
    dsimp only at hz1 hz2 hz3 ⊢
    subst hz1 hz3
    obtain ⟨o1, o2, -⟩ := fl_ok h0 i j v
    have hlt := o1.2.2.2 he
    generalize hT : fl cl S i j v = T at he hz2 o1 o2 hlt
    obtain ⟨tn, tR, te⟩ := T
    dsimp only at he hz2 o1 o2 hlt
    subst he
    rw [hSn] at o2
    unfold b_X5_makeOfBoth_2
    rw [if_neg (by rw [i8, nI_le_iff (by omega) (by omega)]; omega)]
    obtain ⟨c1, e1, s1⟩ := tmk_cls hz2 hlt (i := i) (j := j) (v := v) (by omega) (by omega) hv
    show ∃ c', oB3 (f_X5_makeIfNew (nI cl) (nI tn) z2 (nI i) (nI j) (nI v)) _ = _ ∧ _
    rw [e1, oB3_s]
    obtain ⟨p1, p2⟩ := tmk_ok o1 i j v
    generalize hU : tmk cl (tn, tR, false) i j v = U at s1 p1 p2
    obtain ⟨un, uR, ue⟩ := U
    dsimp only at s1 p1 p2 ⊢
    cases ue with
    | true =>
      rw [if_neg (show ¬ bi true = 0 by decide)]
      have hF : fl cl S i j (v + 1) = (un, uR, true) := by
        show tmk cl (tmk cl (fl cl S i j v) i j v) j i v = _
        rw [hT, hU, tmk_end rfl]
      have hF8 : fl cl S i j 8 = (un, uR, true) := by
        have := fl_stay (cl := cl) (S := S) (i := i) (j := j) (v := v + 1) (by rw [hF]) (7 - v)
        rw [show v + 1 + (7 - v) = 8 by omega] at this
        rw [this, hF]
      rw [hF8]
      exact ⟨c1, rfl, s1⟩
    | false =>
      rw [if_pos (show bi false = 0 from rfl)]
      have hlt2 := p1.2.2.2 rfl
      dsimp only at hlt2
      obtain ⟨c2, e2, s2⟩ := tmk_cls s1 hlt2 (i := j) (j := i) (v := v) (by omega) (by omega) hv
      rw [e2, oB3_s]
      have hF : fl cl S i j (v + 1) = tmk cl (un, uR, false) j i v := by
        show tmk cl (tmk cl (fl cl S i j v) i j v) j i v = _
        rw [hT, hU]
      cases hb : (tmk cl (un, uR, false) j i v).2.2 with
      | true =>
        rw [if_neg (show ¬ bi true = 0 by decide)]
        have hF8 : fl cl S i j 8 = tmk cl (un, uR, false) j i v := by
          have := fl_stay (cl := cl) (S := S) (i := i) (j := j) (v := v + 1) (by rw [hF]; exact hb) (7 - v)
          rw [show v + 1 + (7 - v) = 8 by omega] at this
          rw [this, hF]
        rw [hF8, hb]
        exact ⟨c2, rfl, s2⟩
      | false =>
        rw [if_pos (show bi false = 0 from rfl), oL_s, nI_1]
        refine hk _ ⟨?_, ?_, ?_, rfl⟩
        · rw [hF]; exact hb
        · rw [hF]
        · rw [hF]; exact s2
  · rintro ⟨z1, z2, z3⟩ k ⟨he, hz1, hz2, hz3⟩
    dsimp only at hz1 hz2 hz3 ⊢
    subst hz1 hz3
    unfold b_X5_makeOfBoth_2
    rw [if_pos (show (8 : Int32) ≤ nI 8 by decide), he]
    exact ⟨z2, rfl, hz2⟩
/-- no letter meets: nothing can be made -/
theorem and0_bt {x y : Int32} (h : (x &&& y) = 0) (v : Nat) : bt x v = false ∨ bt y v = false := by
  have := b_and x y v
  rw [h, b_0] at this
  cases hx : bt x v
  · exact Or.inl rfl
  · rw [hx] at this; exact Or.inr (by simpa using this.symm)
theorem or0 {x y : Int32} (h : (x ||| y) = 0) : x = 0 ∧ y = 0 := by
  constructor <;> apply b_ext <;> intro i _ <;> have := b_or x y i <;> rw [h, b_0] at this <;> rw [b_0] <;> cases hx : bt x i <;> cases hy : bt y i <;> simp_all
theorem fl_nomeet {cl : Nat} {S : AS} {i j : Nat} (h : ((S.2.1 0 i &&& S.2.1 1 j) ||| (S.2.1 1 i &&& S.2.1 0 j)) = 0) : ∀ v, v ≤ 8 → fl cl S i j v = S := by
  obtain ⟨h1, h2⟩ := or0 h
  intro v
  induction v with
  | zero => intro _; rfl
  | succ v ih =>
    intro hv
    show tmk cl (tmk cl (fl cl S i j v) i j v) j i v = S
    rw [ih (by omega)]
    have e1 : tmk cl S i j v = S := by
      unfold tmk
      rw [cmk_bt _ _ _ _ (by omega)]
      rcases and0_bt h1 v with q | q <;> simp [q]
    rw [e1]
    unfold tmk
    rw [cmk_bt _ _ _ _ (by omega)]
    rcases and0_bt h2 v with q | q <;> simp [q]
theorem meeting9 {c : Nat → Int32} {cl n : Nat} {R : RW} (h : SRR c R cl n) {i j : Nat} (hi : i < n) (hj : j < n) : f_X5_meeting c (nI i) (nI j) = some ((R 0 i &&& R 1 j) ||| (R 1 i &&& R 0 j)) := by
  obtain ⟨h1, h2, h3, h4, -, -⟩ := h
  obtain ⟨ai, bi_, -⟩ := h4 i hi
  obtain ⟨aj, bj, -⟩ := h4 j hj
  unfold f_X5_meeting
  rw [cell0 c (by omega), oB1_s, cell1 c (by omega), oB1_s, cell1 c (by omega), oB1_s, cell0 c (by omega), oB1_s, ai, bi_, aj, bj]
theorem sought26 {c : Nat → Int32} {cl n : Nat} {R : RW} (h : SRR c R cl n) (hn : n < cl + 30) {j : Nat} (hj : j < n) (k10 : Int32 × (Nat → Int32) × Int32 → Option ((Nat → Int32) × Int32)) (P : Option ((Nat → Int32) × Int32) → Prop)
    (hc : (gi cl (n, R, false) j j).2.2 = false → ∀ c', SRR c' (gi cl (n, R, false) j j).2.1 cl (gi cl (n, R, false) j j).1 → P (k10 (nI (gi cl (n, R, false) j j).1, c', nI (j + 1))))
    (he : (gi cl (n, R, false) j j).2.2 = true → ∀ c', SRR c' (gi cl (n, R, false) j j).2.1 cl (gi cl (n, R, false) j j).1 → P (some (c', nI (gi cl (n, R, false) j j).1))) : P (L_X5_makeSought_26 (nI cl) (nI j) k10 (nI n, c, 0)) := by
  have h0 : okS cl (n, R, false) := ⟨h.1, h.2.1, h.2.2.1, fun _ => hn⟩
  unfold L_X5_makeSought_26
  generalize hS : ((n, R, false) : AS) = S at h0 hc he
  have hSn : S.1 = n := by rw [← hS]
  refine oF_P0 (σ := Int32 × (Nat → Int32) × Int32) (fun i z => (gi cl S j i).2.2 = false ∧ z.1 = nI (gi cl S j i).1 ∧ SRR z.2.1 (gi cl S j i).2.1 cl (gi cl S j i).1 ∧ z.2.2 = nI i) j P _ ⟨by rw [← hS]; rfl, by rw [← hS]; rfl, by rw [← hS]; exact h, rfl⟩ (by have := h.1; have := h.2.2.1; omega) ?_ ?_
  · rintro i ⟨z1, z2, z3⟩ k hi ⟨hee, hz1, hz2, hz3⟩ hk
    dsimp only at hz1 hz2 hz3 ⊢
    subst hz1 hz3
    obtain ⟨o1, o2, -⟩ := gi_ok h0 j i
    have hlt := o1.2.2.2 hee
    have hF : gi cl S j (i + 1) = fl cl (gi cl S j i) i j 8 := rfl
    generalize hT : gi cl S j i = T at hee hz2 o1 o2 hlt hF
    obtain ⟨tn, tR, te⟩ := T
    dsimp only at hee hz2 o1 o2 hlt
    subst hee
    rw [hSn] at o2
    have hb40 : tn ≤ 40 := by have := o1.1; have := o1.2.2.1; dsimp only at this; omega
    unfold b_X5_makeSought_26 f_X5_makeSought_50
    rw [if_neg (by rw [nI_le_iff (by omega) (by omega)]; omega), meeting9 hz2 (by omega) (by omega), oB1_s]
    by_cases hm : ((tR 0 i &&& tR 1 j) ||| (tR 1 i &&& tR 0 j)) = 0
    · rw [if_pos hm, oL_s, nI_1]
      have hF2 : gi cl S j (i + 1) = (tn, tR, false) := by rw [hF]; exact fl_nomeet hm 8 (by omega)
      exact hk _ ⟨by rw [hF2], by rw [hF2], by rw [hF2]; exact hz2, rfl⟩
    · rw [if_neg hm]
      obtain ⟨c1, e1, s1⟩ := makeOfBoth9 hz2 hlt (i := i) (j := j) (by omega) (by omega)
      rw [← hF] at e1 s1
      show P (oB3 (f_X5_makeOfBoth (nI cl) (nI tn) z2 (nI i) (nI j)) _)
      rw [e1, oB3_s]
      cases hb : (gi cl S j (i + 1)).2.2 with
      | true =>
        rw [if_neg (show ¬ bi true = 0 by decide)]
        have hst := gi_stay hb (j - (i + 1))
        rw [show i + 1 + (j - (i + 1)) = j by omega] at hst
        rw [← hst] at s1 ⊢
        exact he (by rw [hst]; exact hb) c1 s1
      | false =>
        rw [if_pos (show bi false = 0 from rfl), oL_s, nI_1]
        exact hk _ ⟨hb, rfl, s1, rfl⟩
  · rintro ⟨z1, z2, z3⟩ k ⟨hee, hz1, hz2, hz3⟩
    dsimp only at hz1 hz2 hz3 ⊢
    subst hz1 hz3
    unfold b_X5_makeSought_26
    rw [if_pos (by rw [nI_le_iff (by have := h.1; have := h.2.2.1; omega) (by have := h.1; have := h.2.2.1; omega)]; omega), oL_s, nI_1]
    exact hc hee z2 hz2
theorem sought9 {c : Nat → Int32} {cl n : Nat} {R : RW} (h : SRR c R cl n) : ∃ c', f_X5_makeSought (nI cl) (nI n) c = some (c', nI (hh cl 40 (n, R, decide (30 ≤ n - cl)) 1).1) ∧ SRR c' (hh cl 40 (n, R, decide (30 ≤ n - cl)) 1).2.1 cl (hh cl 40 (n, R, decide (30 ≤ n - cl)) 1).1 := by
  have b1 := h.1
  have b2 := h.2.1
  have b3 := h.2.2.1
  unfold f_X5_makeSought
  rw [nmf_eq b2 (by omega), oB1_s]
  by_cases hf : 30 ≤ n - cl
  · rw [decide_eq_true hf, if_neg (show ¬ bi true = 0 by decide), hh_end rfl]
    exact ⟨c, rfl, h⟩
  · rw [decide_eq_false hf, if_pos (show bi false = 0 from rfl)]
    have h0 : okS cl (n, R, false) := ⟨b1, b2, b3, fun _ => by show n < cl + 30; omega⟩
    unfold L_X5_makeSought_10
    generalize hF : hh cl 40 (n, R, false) 1 = F
    refine oF_P0 (σ := Int32 × (Nat → Int32) × Int32) (fun i z => ∃ S : AS, S.2.2 = false ∧ okS cl S ∧ z.1 = nI S.1 ∧ SRR z.2.1 S.2.1 cl S.1 ∧ z.2.2 = nI (i + 1) ∧ hh cl (40 - i) S (i + 1) = F) 39 (fun r => ∃ c', r = some (c', nI F.1) ∧ SRR c' F.2.1 cl F.1) _ ⟨(n, R, false), rfl, h0, rfl, h, rfl, hF⟩ (by omega) ?_ ?_
    · rintro i ⟨z1, z2, z3⟩ k hi ⟨S, he, ho, hz1, hz2, hz3, hS⟩ hk
      dsimp only at hz1 hz2 hz3 ⊢
      subst hz1 hz3
      obtain ⟨sn, sR, se⟩ := S
      dsimp only at he hz2 ⊢
      subst he
      have q1 := ho.1
      have q2 := ho.2.2.1
      dsimp only at q2
      unfold b_X5_makeSought_10
      rw [if_neg (by rw [i40, nI_le_iff (by omega) (by omega)]; omega)]
      have hS2 : (if i + 1 < sn ∧ (false : Bool) = false then hh cl (39 - i) (gi cl (sn, sR, false) (i + 1) (i + 1)) (i + 1 + 1) else (sn, sR, false)) = F := by
        rw [show 40 - i = (39 - i) + 1 by omega] at hS
        exact hS
      by_cases hj : i + 1 < sn
      · rw [if_neg (by rw [nI_le_iff (by omega) (by omega)]; omega)]
        rw [if_pos ⟨hj, rfl⟩] at hS2
        refine sought26 hz2 (ho.2.2.2 rfl) hj k (fun r => ∃ c', r = some (c', nI F.1) ∧ SRR c' F.2.1 cl F.1) (fun hb c' hs => ?_) (fun hb c' hs => ?_)
        · exact hk _ ⟨_, hb, (gi_ok ho (i + 1) (i + 1)).1, rfl, hs, rfl, by rw [show 40 - (i + 1) = 39 - i by omega]; exact hS2⟩
        · rw [hh_end hb] at hS2
          rw [← hS2]
          exact ⟨c', rfl, hs⟩
      · rw [if_pos (by rw [nI_le_iff (by omega) (by omega)]; omega)]
        rw [if_neg (fun q => hj q.1)] at hS2
        rw [← hS2]
        exact ⟨z2, rfl, hz2⟩
    · rintro ⟨z1, z2, z3⟩ k ⟨S, he, ho, hz1, hz2, hz3, hS⟩
      dsimp only at hz1 hz2 hz3 ⊢
      subst hz1 hz3
      unfold b_X5_makeSought_10
      rw [if_pos (show (40 : Int32) ≤ nI 40 by decide)]
      have q1 := ho.1
      have q2 := ho.2.2.1
      have hS2 : (if 40 < S.1 ∧ S.2.2 = false then hh cl 0 (gi cl S 40 40) 41 else S) = F := hS
      rw [if_neg (by omega)] at hS2
      rw [← hS2]
      exact ⟨z2, rfl, hz2⟩
/-- the reference -/
def tS (S : AS) (x : Int32) : Int32 × Int32 × (Nat → Int32) × (Nat → Int32) × (Nat → Int32) × (Nat → Int32) × (Nat → Int32) × (Nat → Int32) × Int32 := (nI S.1, bi S.2.2, S.2.1 0, S.2.1 1, S.2.1 2, S.2.1 3, S.2.1 4, S.2.1 5, x)
theorem tmk_ref' {cl : Nat} {S : AS} (h : okS cl S) {i j v : Nat} (hi : i < S.1) (hj : j < S.1) (hv : v < 8) : f_X10_tryMake (nI cl) (nI S.1) (bi S.2.2) (S.2.1 0) (S.2.1 1) (S.2.1 2) (S.2.1 3) (S.2.1 4) (S.2.1 5) (nI i) (nI j) (nI v) = some (nI (tmk cl S i j v).1, (tmk cl S i j v).2.1 0, (tmk cl S i j v).2.1 1, (tmk cl S i j v).2.1 2, (tmk cl S i j v).2.1 3, (tmk cl S i j v).2.1 4, (tmk cl S i j v).2.1 5, bi (tmk cl S i j v).2.2) := tmk_ref (n := S.1) (R := S.2.1) (e := S.2.2) h hi hj hv
theorem seek47 {cl : Nat} {S : AS} (h : okS cl S) {i j : Nat} (hi : i < S.1) (hj : j < S.1) (k32 : Int32 × Int32 × (Nat → Int32) × (Nat → Int32) × (Nat → Int32) × (Nat → Int32) × (Nat → Int32) × (Nat → Int32) × Int32 → Option (Int32 × Int32 × (Nat → Int32) × (Nat → Int32) × (Nat → Int32) × (Nat → Int32) × (Nat → Int32) × (Nat → Int32) × Int32 × (Nat → Int32) × Int32)) : L_X10_seek_47 (nI cl) (nI j) (nI i) k32 (tS S 0) = k32 (tS (fl cl S i j 8) (nI (i + 1))) := by
  unfold L_X10_seek_47
  refine oF_run0 (fun v => tS (fl cl S i j v) (nI v)) 8 _ rfl (by omega) ?_ ?_
  · intro v hv k
    obtain ⟨o1, o2, -⟩ := fl_ok h i j v
    obtain ⟨p1, p2⟩ := tmk_ok o1 i j v
    show b_X10_seek_47 _ _ _ _ k (nI (fl cl S i j v).1) (bi (fl cl S i j v).2.2) ((fl cl S i j v).2.1 0) ((fl cl S i j v).2.1 1) ((fl cl S i j v).2.1 2) ((fl cl S i j v).2.1 3) ((fl cl S i j v).2.1 4) ((fl cl S i j v).2.1 5) (nI v) = _
    unfold b_X10_seek_47
    rw [if_neg (by rw [i8, nI_le_iff (by omega) (by omega)]; omega), tmk_ref' o1 (by omega) (by omega) hv, oB8_s, tmk_ref' p1 (by omega) (by omega) hv, oB8_s, oL_s, nI_1]
    rfl
  · intro k
    show b_X10_seek_47 _ _ _ _ k (nI (fl cl S i j 8).1) (bi (fl cl S i j 8).2.2) ((fl cl S i j 8).2.1 0) ((fl cl S i j 8).2.1 1) ((fl cl S i j 8).2.1 2) ((fl cl S i j 8).2.1 3) ((fl cl S i j 8).2.1 4) ((fl cl S i j 8).2.1 5) (nI 8) = _
    unfold b_X10_seek_47
    rw [if_pos (show (8 : Int32) ≤ nI 8 by decide), oL_s, nI_1]
    rfl
theorem seek32 {cl : Nat} {S : AS} (h : okS cl S) {j : Nat} (hj : j < S.1) (k15 : Int32 × Int32 × (Nat → Int32) × (Nat → Int32) × (Nat → Int32) × (Nat → Int32) × (Nat → Int32) × (Nat → Int32) × Int32 → Option (Int32 × Int32 × (Nat → Int32) × (Nat → Int32) × (Nat → Int32) × (Nat → Int32) × (Nat → Int32) × (Nat → Int32) × Int32 × (Nat → Int32) × Int32)) : L_X10_seek_32 (nI cl) (nI j) k15 (tS S 0) = k15 (tS (gi cl S j j) (nI (j + 1))) := by
  have hb : S.1 ≤ 40 := by have := h.1; have := h.2.2.1; omega
  unfold L_X10_seek_32
  refine oF_P0 (fun i z => z = tS (gi cl S j i) (nI i)) j (fun r => r = k15 (tS (gi cl S j j) (nI (j + 1)))) _ rfl (by omega) ?_ ?_
  · rintro i z k hi rfl hk
    obtain ⟨o1, o2, -⟩ := gi_ok h j i
    show b_X10_seek_32 _ _ _ k (nI (gi cl S j i).1) (bi (gi cl S j i).2.2) ((gi cl S j i).2.1 0) ((gi cl S j i).2.1 1) ((gi cl S j i).2.1 2) ((gi cl S j i).2.1 3) ((gi cl S j i).2.1 4) ((gi cl S j i).2.1 5) (nI i) = _
    unfold b_X10_seek_32 f_X10_seek_82
    rw [if_neg (by rw [nI_le_iff (by omega) (by omega)]; omega)]
    cases hbb : (gi cl S j i).2.2 with
    | false =>
      rw [if_pos (show bi false = 0 from rfl)]
      have := seek47 o1 (i := i) (j := j) (by omega) (by omega) k
      unfold tS at this
      rw [hbb] at this
      rw [this]
      exact hk _ rfl
    | true =>
      rw [if_neg (show ¬ bi true = 0 by decide), oL_s, nI_1]
      have hst := gi_stay hbb (j - i)
      rw [show i + (j - i) = j by omega] at hst
      rw [hst]
      unfold tS
      rw [hbb]
  · rintro z k rfl
    show b_X10_seek_32 _ _ _ k (nI (gi cl S j j).1) (bi (gi cl S j j).2.2) ((gi cl S j j).2.1 0) ((gi cl S j j).2.1 1) ((gi cl S j j).2.1 2) ((gi cl S j j).2.1 3) ((gi cl S j j).2.1 4) ((gi cl S j j).2.1 5) (nI j) = _
    unfold b_X10_seek_32 f_X10_seek_82
    rw [if_pos (by rw [nI_le_iff (by omega) (by omega)]; omega), oL_s, nI_1]
    rfl
theorem seek15 {cl : Nat} {S : AS} (h : okS cl S) (und : Int32) (bf : Nat → Int32) (x1 : Int32) : L_X10_seek_15 (nI cl) und bf x1 (tS S 0) = f_X10_seek_88 (nI (hh cl 41 S 0).1) und (bi (hh cl 41 S 0).2.2) ((hh cl 41 S 0).2.1 0) ((hh cl 41 S 0).2.1 1) ((hh cl 41 S 0).2.1 2) ((hh cl 41 S 0).2.1 3) ((hh cl 41 S 0).2.1 4) ((hh cl 41 S 0).2.1 5) bf x1 := by
  unfold L_X10_seek_15
  generalize hF : hh cl 41 S 0 = F
  refine oF_P0 (fun i z => ∃ T : AS, okS cl T ∧ z = tS T (nI i) ∧ hh cl (41 - i) T i = F) 40 (fun r => r = f_X10_seek_88 (nI F.1) und (bi F.2.2) (F.2.1 0) (F.2.1 1) (F.2.1 2) (F.2.1 3) (F.2.1 4) (F.2.1 5) bf x1) _ ⟨S, h, rfl, hF⟩ (by omega) ?_ ?_
  · rintro i z k hi ⟨T, ho, rfl, hT⟩ hk
    have q1 := ho.1
    have q2 := ho.2.2.1
    show b_X10_seek_15 _ _ _ _ k (nI T.1) (bi T.2.2) (T.2.1 0) (T.2.1 1) (T.2.1 2) (T.2.1 3) (T.2.1 4) (T.2.1 5) (nI i) = _
    unfold b_X10_seek_15
    have hT2 : (if i < T.1 ∧ T.2.2 = false then hh cl (40 - i) (gi cl T i i) (i + 1) else T) = F := by
      rw [show 41 - i = (40 - i) + 1 by omega] at hT
      exact hT
    by_cases hj : i < T.1
    · rw [if_neg (by rw [nI_le_iff (by omega) (by omega)]; omega)]
      cases hb : T.2.2 with
      | false =>
        rw [if_pos ⟨hj, hb⟩] at hT2
        rw [if_pos (show bi false = 0 from rfl)]
        have := seek32 ho hj k
        unfold tS at this
        rw [hb] at this
        rw [this]
        exact hk _ ⟨_, (gi_ok ho i i).1, rfl, by rw [show 41 - (i + 1) = 40 - i by omega]; exact hT2⟩
      | true =>
        rw [if_neg (fun q => by rw [hb] at q; exact absurd q.2 (by decide))] at hT2
        rw [if_neg (show ¬ bi true = 0 by decide), ← hT2, hb]
    · rw [if_pos (by rw [nI_le_iff (by omega) (by omega)]; omega)]
      rw [if_neg (fun q => hj q.1)] at hT2
      rw [← hT2]
  · rintro z k ⟨T, ho, rfl, hT⟩
    have q1 := ho.1
    have q2 := ho.2.2.1
    show b_X10_seek_15 _ _ _ _ k (nI T.1) (bi T.2.2) (T.2.1 0) (T.2.1 1) (T.2.1 2) (T.2.1 3) (T.2.1 4) (T.2.1 5) (nI 40) = _
    unfold b_X10_seek_15
    have hT2 : (if 40 < T.1 ∧ T.2.2 = false then hh cl 0 (gi cl T 40 40) 41 else T) = F := hT
    rw [if_neg (by omega)] at hT2
    rw [if_pos (by rw [nI_le_iff (by omega) (by omega)]; omega), ← hT2]
theorem hh_01 {cl : Nat} (S : AS) : hh cl 41 S 0 = hh cl 40 S 1 := by
  show (if 0 < S.1 ∧ S.2.2 = false then hh cl 40 (gi cl S 0 0) 1 else S) = _
  by_cases h : 0 < S.1 ∧ S.2.2 = false
  · rw [if_pos h]; rfl
  · rw [if_neg h]
    show S = (if 1 < S.1 ∧ S.2.2 = false then _ else S)
    rw [if_neg (fun q => h ⟨by omega, q.2⟩)]
theorem seek_ok {c mb bf : Nat → Int32} {R : RW} {cl n u : Nat} (h : SRR c R cl n) (hm : MR mb bf u cl n) : ∃ r c' R' n' mb' bf' u' e, f_X9_seek (nI u) mb (nI cl) (nI n) c = some (r, mb', nI u', c', nI n') ∧ f_X10_seek (nI cl) (nI n) (nI u) (R 0) (R 1) (R 2) (R 3) (R 4) (R 5) bf = some (r, nI n', R' 0, R' 1, R' 2, R' 3, R' 4, R' 5, nI u', bf', e) ∧ SRR c' R' cl n' ∧ MR mb' bf' u' cl n' ∧ sameC cl R R' := by
  have b1 := h.1
  have b2 := h.2.1
  have b3 := h.2.2.1
  obtain ⟨c', e1, s1⟩ := sought9 h
  have h0 : okS cl (n, R, decide (30 ≤ n - cl)) := ⟨b1, b2, b3, fun q => by rw [decide_eq_false_iff_not] at q; show n < cl + 30; omega⟩
  have e2 := seek15 h0 (nI u) bf (nI n)
  rw [hh_01] at e2
  obtain ⟨k1, k2, k3⟩ := hh_ok 40 h0 1
  unfold f_X9_seek f_X10_seek
  rw [e1, oB2_s, isFull_eq b2 (by omega) b3, oB1_s, oZ_bi]
  show ∃ r c' R' n' mb' bf' u' e, _ ∧ L_X10_seek_15 (nI cl) (nI u) bf (nI n) (tS (n, R, decide (30 ≤ n - cl)) 0) = _ ∧ _
  rw [e2]
  generalize hh cl 40 (n, R, decide (30 ≤ n - cl)) 1 = F at s1 k1 k2 k3
  dsimp only at k2 k3
  have q1 := k1.2.2.1
  unfold f_X10_seek_88 f_X10_seek_101
  rw [oL_s, pk_sub k2]
  by_cases hp : F.1 ≤ n
  · have e : F.1 = n := by omega
    rw [if_pos (by rw [i0, nI_le_iff (by omega) (by omega)]; omega), if_pos (by rw [nI_le_iff (by omega) (by omega)]; exact hp)]
    exact ⟨_, c', F.2.1, F.1, mb, bf, u, _, rfl, rfl, s1, by rw [e]; exact hm, k3⟩
  · rw [if_neg (by rw [i0, nI_le_iff (by omega) (by omega)]; omega), if_neg (by rw [nI_le_iff (by omega) (by omega)]; exact hp)]
    obtain ⟨mb', bf', u', m1, m2, m3⟩ := marks_add (n' := F.1) hm b2 k2
    rw [m1, m2, oB2_s, oB2_s]
    exact ⟨_, c', F.2.1, F.1, mb', bf', u', _, rfl, rfl, s1, m3, k3⟩
