/-! steps sought -/
abbrev RW : Type := Nat → Nat → Int32
abbrev AS : Type := Nat × RW × Bool
def mkR (R : RW) (n i j v : Nat) : RW := fun f => match f with
  | 0 => upd (R 0) n (jn (R 0 i) (R 0 j) (nI v))
  | 1 => upd (R 1) n (jn (R 1 i) (R 1 j) (nI v))
  | 2 => upd (R 2) n (-1)
  | 3 => upd (R 3) n (nI i)
  | 4 => upd (R 4) n (nI j)
  | _ => upd (R 5) n (nI v)
def cv1 (R : RW) (p q : Int32) (s : Nat) : Bool := decide ((R 0 s &&& (p ^^^ (-1 : Int32))) = 0) && decide ((R 1 s &&& (q ^^^ (-1 : Int32))) = 0)
def cov (R : RW) (p q : Int32) : Nat → Bool
  | 0 => false
  | n + 1 => cov R p q n || cv1 R p q n
theorem cov_false {R : RW} {p q : Int32} : ∀ {e : Nat}, (∀ i, i < e → cv1 R p q i = false) → cov R p q e = false := by
  intro e
  induction e with
  | zero => intro _; rfl
  | succ e ih => intro h; show (cov R p q e || cv1 R p q e) = false; rw [ih (fun i hi => h i (by omega)), h e (by omega)]; rfl
theorem cov_true {R : RW} {p q : Int32} {e : Nat} (he : cv1 R p q e = true) : ∀ {n : Nat}, e < n → cov R p q n = true := by
  intro n
  induction n with
  | zero => intro h; omega
  | succ n ih =>
    intro h
    show (cov R p q n || cv1 R p q n) = true
    by_cases e2 : e = n
    · subst e2; rw [he]; simp
    · rw [ih (by omega)]; rfl
theorem isWithin10 (R : RW) {n i j : Nat} (hn : n ≤ 40) (hi : i < 40) (hj : j < 40) (v : Int32) : f_X10_isWithin (nI n) (R 0) (R 1) (nI i) (nI j) v = some (bi (cov R (jn (R 0 i) (R 0 j) v) (jn (R 1 i) (R 1 j) v) n)) := by
  unfold f_X10_isWithin
  simp only [oA40 hi, oA40 hj, oL_s]
  show L_X10_isWithin_48 (nI n) (R 0) (R 1) (jn (R 0 i) (R 0 j) v) (jn (R 1 i) (R 1 j) v) (0, 0) = _
  generalize jn (R 0 i) (R 0 j) v = p
  generalize jn (R 1 i) (R 1 j) v = q
  unfold L_X10_isWithin_48
  refine oF_run0 (fun s => (bi (cov R p q s), nI s)) n _ rfl (by omega) ?_ ?_
  · intro s hs k
    show b_X10_isWithin_48 _ _ _ _ _ k (bi (cov R p q s)) (nI s) = k (bi (cov R p q s || cv1 R p q s), nI (s + 1))
    unfold b_X10_isWithin_48 f_X10_isWithin_92 f_X10_isWithin_96 f_X10_isWithin_97 cv1
    rw [if_neg (by rw [nI_le_iff (by omega) (by omega)]; omega)]
    simp only [oA40 (show s < 40 by omega), oL_s, nI_1]
    generalize (p ^^^ (-1 : Int32)) = p'
    generalize (q ^^^ (-1 : Int32)) = q'
    cases cov R p q s
    · by_cases h1 : (R 0 s &&& p') = 0
      · by_cases h2 : (R 1 s &&& q') = 0
        · simp [h1, h2, bi]
        · simp [h1, h2, bi]
      · simp [h1, bi]
    · simp [bi]
  · intro k
    show b_X10_isWithin_48 _ _ _ _ _ k (bi (cov R p q n)) (nI n) = _
    unfold b_X10_isWithin_48
    rw [if_pos (by rw [nI_le_iff (by omega) (by omega)]; omega), oZ_bi]
theorem isCovered9 {c : Nat → Int32} (R : RW) {n : Nat} (hn : n ≤ 40) (hc : ∀ s, s < n → c (8 * s) = R 0 s ∧ c (8 * s + 1) = R 1 s) (p q : Int32) : f_X5_isCovered (nI n) c p q = some (bi (cov R p q n)) := by
  obtain ⟨e, h1, h2⟩ := pk_least (fun k => k = n ∨ cv1 R p q k = true) ⟨n, Or.inl rfl⟩
  have hen : e ≤ n := by
    rcases Nat.lt_or_ge n e with h | h
    · exact absurd (Or.inl rfl) (h2 n h)
    · exact h
  have h3 : ∀ i, i < e → cv1 R p q i = false := fun i hi => by
    cases hb : cv1 R p q i with
    | false => rfl
    | true => exact absurd (Or.inr hb) (h2 i hi)
  unfold f_X5_isCovered L_X5_isCovered_2
  refine oF_run0 (fun s => nI s) e _ rfl (by omega) ?_ ?_
  · intro s hs k
    have hb := h3 s hs
    unfold b_X5_isCovered_2 f_X5_isCovered_38
    obtain ⟨g1, g2⟩ := hc s (by omega)
    rw [if_neg (by rw [nI_le_iff (by omega) (by omega)]; omega), cell0 c (by omega), oB1_s, cell1 c (by omega), oB1_s, g1, g2]
    unfold cv1 at hb
    simp only [oL_s, nI_1]
    generalize (p ^^^ (-1 : Int32)) = p' at hb ⊢
    generalize (q ^^^ (-1 : Int32)) = q' at hb ⊢
    by_cases q1 : (R 0 s &&& p') = 0
    · by_cases q2 : (R 1 s &&& q') = 0
      · simp [q1, q2] at hb
      · simp [q1, q2]
    · simp [q1]
  · intro k
    unfold b_X5_isCovered_2
    rcases Nat.lt_or_ge e n with h | h
    · have hb := h1.resolve_left (by omega)
      rw [cov_true hb h]
      obtain ⟨g1, g2⟩ := hc e h
      rw [if_neg (by rw [nI_le_iff (by omega) (by omega)]; omega), cell0 c (by omega), oB1_s, cell1 c (by omega), oB1_s, g1, g2]
      unfold cv1 at hb
      generalize (p ^^^ (-1 : Int32)) = p' at hb ⊢
      generalize (q ^^^ (-1 : Int32)) = q' at hb ⊢
      simp only [Bool.and_eq_true, decide_eq_true_iff] at hb
      simp [hb.1, hb.2, bi]
    · have e2 : e = n := by omega
      subst e2
      rw [cov_false h3, if_pos (by rw [nI_le_iff (by omega) (by omega)]; omega)]
      rfl
/-- one try -/
def tmk (cl : Nat) (S : AS) (i j v : Nat) : AS :=
  if S.2.2 then S else if cmk (S.2.1 0 i) (S.2.1 1 i) (S.2.1 0 j) (S.2.1 1 j) (nI v) && !(cov S.2.1 (jn (S.2.1 0 i) (S.2.1 0 j) (nI v)) (jn (S.2.1 1 i) (S.2.1 1 j) (nI v)) S.1) then
    (S.1 + 1, mkR S.2.1 S.1 i j v, decide (30 ≤ S.1 + 1 - cl) || decide ((jn (S.2.1 0 i) (S.2.1 0 j) (nI v) ||| jn (S.2.1 1 i) (S.2.1 1 j) (nI v)) = 0)) else S
def okS (cl : Nat) (S : AS) : Prop := cl ≤ 10 ∧ cl ≤ S.1 ∧ S.1 ≤ cl + 30 ∧ (S.2.2 = false → S.1 < cl + 30)
theorem tmk_end {cl : Nat} {S : AS} (h : S.2.2 = true) (i j v : Nat) : tmk cl S i j v = S := by unfold tmk; rw [if_pos h]
theorem tmk_ok {cl : Nat} {S : AS} (h : okS cl S) (i j v : Nat) : okS cl (tmk cl S i j v) ∧ S.1 ≤ (tmk cl S i j v).1 := by
  unfold tmk
  obtain ⟨h1, h2, h3, h4⟩ := h
  by_cases q1 : S.2.2 = true
  · rw [if_pos q1]; exact ⟨⟨h1, h2, h3, h4⟩, Nat.le_refl _⟩
  · rw [if_neg q1]
    have hlt := h4 (by simpa using q1)
    split
    · refine ⟨⟨h1, ?_, ?_, ?_⟩, Nat.le_succ _⟩
      · show cl ≤ S.1 + 1; omega
      · show S.1 + 1 ≤ cl + 30; omega
      · intro hf
        show S.1 + 1 < cl + 30
        dsimp only at hf
        rw [Bool.or_eq_false_iff, decide_eq_false_iff_not] at hf
        omega
    · exact ⟨⟨h1, h2, h3, h4⟩, Nat.le_refl _⟩
def SRR (c : Nat → Int32) (R : RW) (cl n : Nat) : Prop := SR c (R 0) (R 1) (R 2) (R 3) (R 4) (R 5) cl n
theorem tmk_ref {cl n : Nat} {R : RW} {e : Bool} (h : okS cl (n, R, e)) {i j v : Nat} (hi : i < n) (hj : j < n) (hv : v < 8) : f_X10_tryMake (nI cl) (nI n) (bi e) (R 0) (R 1) (R 2) (R 3) (R 4) (R 5) (nI i) (nI j) (nI v) = some (nI (tmk cl (n, R, e) i j v).1, (tmk cl (n, R, e) i j v).2.1 0, (tmk cl (n, R, e) i j v).2.1 1, (tmk cl (n, R, e) i j v).2.1 2, (tmk cl (n, R, e) i j v).2.1 3, (tmk cl (n, R, e) i j v).2.1 4, (tmk cl (n, R, e) i j v).2.1 5, bi (tmk cl (n, R, e) i j v).2.2) := by
  obtain ⟨h1, h2, h3, h4⟩ := h
  dsimp only at h2 h3 h4
  unfold f_X10_tryMake f_X10_tryMake_68 f_X10_tryMake_73
  cases e with
  | true => rw [tmk_end rfl, if_neg (by decide)]
  | false =>
    have hlt := h4 rfl
    rw [if_pos (show bi false = 0 from rfl), canMake10 _ _ (by omega) (by omega) (by omega), oB1_s]
    unfold tmk
    dsimp only
    rw [if_neg (show ¬ false = true by decide)]
    cases cmk (R 0 i) (R 1 i) (R 0 j) (R 1 j) (nI v)
    · simp only [show bi false = 0 from rfl, if_true, Bool.false_and]; rfl
    · rw [if_neg (show ¬ bi true = 0 by decide), isWithin10 R (by omega) (by omega) (by omega), oB1_s]
      cases cov R (jn (R 0 i) (R 0 j) (nI v)) (jn (R 1 i) (R 1 j) (nI v)) n
      · rw [if_pos (show bi false = 0 from rfl), make10 _ _ _ _ _ _ (by omega) hi hj, oB7_s, isFull_eq (by omega) (by omega) (by omega), oB1_s]
        simp only [Bool.true_and, Bool.not_false, if_true]
        by_cases hf : 30 ≤ n + 1 - cl
        · rw [decide_eq_true hf, if_neg (show ¬ bi true = 0 by decide)]
          rfl
        · rw [decide_eq_false hf, if_pos (show bi false = 0 from rfl), nI_pred, oA40 (by omega), oA40 (by omega), upd_s, upd_s]
          by_cases hz : (jn (R 0 i) (R 0 j) (nI v) ||| jn (R 1 i) (R 1 j) (nI v)) = 0
          · rw [if_pos hz, decide_eq_true hz]; rfl
          · rw [if_neg hz, decide_eq_false hz]; rfl
      · rw [if_neg (show ¬ bi true = 0 by decide)]
        simp only [Bool.true_and, Bool.not_true, if_false]
        rfl
theorem tmk_cls {c : Nat → Int32} {cl n : Nat} {R : RW} (h : SRR c R cl n) (hn : n < cl + 30) {i j v : Nat} (hi : i < n) (hj : j < n) (hv : v < 8) : ∃ c', f_X5_makeIfNew (nI cl) (nI n) c (nI i) (nI j) (nI v) = some (bi (tmk cl (n, R, false) i j v).2.2, c', nI (tmk cl (n, R, false) i j v).1) ∧ SRR c' (tmk cl (n, R, false) i j v).2.1 cl (tmk cl (n, R, false) i j v).1 := by
  have hh := id h
  obtain ⟨h1, h2, h3, h4, -, -⟩ := h
  obtain ⟨ai, bi_, -⟩ := h4 i hi
  obtain ⟨aj, bj, -⟩ := h4 j hj
  unfold f_X5_makeIfNew f_X5_makeIfNew_56
  rw [canMake9 c (by omega) (by omega), oB1_s, joined0 c (by omega) (by omega), joined1 c (by omega) (by omega), ai, bi_, aj, bj]
  unfold tmk
  dsimp only
  rw [if_neg (show ¬ false = true by decide)]
  cases cmk (R 0 i) (R 1 i) (R 0 j) (R 1 j) (nI v)
  · rw [if_pos (show bi false = 0 from rfl)]
    simp only [Bool.false_and]
    exact ⟨c, rfl, hh⟩
  · rw [if_neg (show ¬ bi true = 0 by decide), oB1_s, oB1_s, isCovered9 R (by omega) (fun s hs => ⟨(h4 s hs).1, (h4 s hs).2.1⟩), oB1_s]
    cases cov R (jn (R 0 i) (R 0 j) (nI v)) (jn (R 1 i) (R 1 j) (nI v)) n
    · rw [if_pos (show bi false = 0 from rfl)]
      simp only [Bool.true_and, Bool.not_false, if_true]
      obtain ⟨c', e1, e2⟩ := make_ok hh hn hi hj hv
      have e3 : SRR c' (mkR R n i j v) cl (n + 1) := e2
      obtain ⟨-, -, -, g4, -, -⟩ := e2
      obtain ⟨p1, p2, -⟩ := g4 n (by omega)
      rw [upd_s] at p1 p2
      rw [e1, oB3_s, isEmpty9 c' (by omega), oB1_s, p1, p2, nmf_eq (by omega) (by omega)]
      by_cases hz : (jn (R 0 i) (R 0 j) (nI v) ||| jn (R 1 i) (R 1 j) (nI v)) = 0
      · rw [decide_eq_true hz, if_neg (show ¬ bi true = 0 by decide), Bool.or_true]
        exact ⟨c', rfl, e3⟩
      · rw [decide_eq_false hz, if_pos (show bi false = 0 from rfl), oB1_s, Bool.or_false]
        by_cases hf : 30 ≤ n + 1 - cl
        · rw [decide_eq_true hf, if_neg (show ¬ bi true = 0 by decide)]
          exact ⟨c', rfl, e3⟩
        · rw [decide_eq_false hf, if_pos (show bi false = 0 from rfl)]
          exact ⟨c', rfl, e3⟩
    · rw [if_neg (show ¬ bi true = 0 by decide)]
      simp only [Bool.true_and, Bool.not_true, if_false]
      exact ⟨c, rfl, hh⟩
/-- the clauses stay -/
def sameC (cl : Nat) (R R' : RW) : Prop := ∀ f, f < 6 → ∀ s, s < cl → R f s = R' f s
theorem sameC_tmk {cl : Nat} {S : AS} (h : cl ≤ S.1) (i j v : Nat) : sameC cl S.2.1 (tmk cl S i j v).2.1 := by
  unfold tmk
  split
  · exact fun f _ s _ => rfl
  · split
    · intro f hf s hs
      rcases (show f = 0 ∨ f = 1 ∨ f = 2 ∨ f = 3 ∨ f = 4 ∨ f = 5 by omega) with rfl | rfl | rfl | rfl | rfl | rfl <;> exact (upd_n _ _ (by omega)).symm
    · exact fun f _ s _ => rfl
def fl (cl : Nat) (S : AS) (i j : Nat) : Nat → AS
  | 0 => S
  | v + 1 => tmk cl (tmk cl (fl cl S i j v) i j v) j i v
theorem fl_stay {cl : Nat} {S : AS} {i j v : Nat} (h : (fl cl S i j v).2.2 = true) : ∀ d, fl cl S i j (v + d) = fl cl S i j v := by
  intro d
  induction d with
  | zero => rfl
  | succ d ih =>
    show tmk cl (tmk cl (fl cl S i j (v + d)) i j (v + d)) j i (v + d) = _
    rw [ih, tmk_end h, tmk_end h]
theorem fl_ok {cl : Nat} {S : AS} (h : okS cl S) (i j : Nat) : ∀ v, okS cl (fl cl S i j v) ∧ S.1 ≤ (fl cl S i j v).1 ∧ sameC cl S.2.1 (fl cl S i j v).2.1 := by
  intro v
  induction v with
  | zero => exact ⟨h, Nat.le_refl _, fun f _ s _ => rfl⟩
  | succ v ih =>
    obtain ⟨h1, h2, h3⟩ := ih
    obtain ⟨g1, g2⟩ := tmk_ok h1 i j v
    obtain ⟨k1, k2⟩ := tmk_ok g1 j i v
    refine ⟨k1, Nat.le_trans h2 (Nat.le_trans g2 k2), fun f hf s hs => ?_⟩
    rw [h3 f hf s hs, sameC_tmk h1.2.1 i j v f hf s hs, sameC_tmk g1.2.1 j i v f hf s hs]
    rfl
def gi (cl : Nat) (S : AS) (j : Nat) : Nat → AS
  | 0 => S
  | k + 1 => fl cl (gi cl S j k) k j 8
theorem gi_ok {cl : Nat} {S : AS} (h : okS cl S) (j : Nat) : ∀ k, okS cl (gi cl S j k) ∧ S.1 ≤ (gi cl S j k).1 ∧ sameC cl S.2.1 (gi cl S j k).2.1 := by
  intro k
  induction k with
  | zero => exact ⟨h, Nat.le_refl _, fun f _ s _ => rfl⟩
  | succ k ih =>
    obtain ⟨h1, h2, h3⟩ := ih
    obtain ⟨g1, g2, g3⟩ := fl_ok h1 k j 8
    exact ⟨g1, Nat.le_trans h2 g2, fun f hf s hs => (h3 f hf s hs).trans (g3 f hf s hs)⟩
theorem fl_end {cl : Nat} {S : AS} (h : S.2.2 = true) (i j v : Nat) : fl cl S i j v = S := by
  have := fl_stay (cl := cl) (S := S) (i := i) (j := j) (v := 0) h v
  rwa [Nat.zero_add] at this
theorem gi_stay {cl : Nat} {S : AS} {j k : Nat} (h : (gi cl S j k).2.2 = true) : ∀ d, gi cl S j (k + d) = gi cl S j k := by
  intro d
  induction d with
  | zero => rfl
  | succ d ih =>
    show fl cl (gi cl S j (k + d)) (k + d) j 8 = _
    rw [ih, fl_end h]
def hh (cl : Nat) : Nat → AS → Nat → AS
  | 0, S, _ => S
  | d + 1, S, j => if j < S.1 ∧ S.2.2 = false then hh cl d (gi cl S j j) (j + 1) else S
theorem hh_end {cl : Nat} {S : AS} (h : S.2.2 = true) (d j : Nat) : hh cl d S j = S := by
  cases d with
  | zero => rfl
  | succ d => show (if j < S.1 ∧ S.2.2 = false then _ else S) = S; rw [if_neg (by rw [h]; simp)]
theorem hh_ok {cl : Nat} : ∀ (d : Nat) {S : AS} (_ : okS cl S) (j : Nat), okS cl (hh cl d S j) ∧ S.1 ≤ (hh cl d S j).1 ∧ sameC cl S.2.1 (hh cl d S j).2.1 := by
  intro d
  induction d with
  | zero => intro S h j; exact ⟨h, Nat.le_refl _, fun f _ s _ => rfl⟩
  | succ d ih =>
    intro S h j
    show okS cl (if j < S.1 ∧ S.2.2 = false then hh cl d (gi cl S j j) (j + 1) else S) ∧ S.1 ≤ (if j < S.1 ∧ S.2.2 = false then hh cl d (gi cl S j j) (j + 1) else S).1 ∧ sameC cl S.2.1 (if j < S.1 ∧ S.2.2 = false then hh cl d (gi cl S j j) (j + 1) else S).2.1
    split
    · obtain ⟨g1, g2, g3⟩ := gi_ok h j j
      obtain ⟨k1, k2, k3⟩ := ih g1 (j + 1)
      exact ⟨k1, Nat.le_trans g2 k2, fun f hf s hs => (g3 f hf s hs).trans (k3 f hf s hs)⟩
    · exact ⟨h, Nat.le_refl _, fun f _ s _ => rfl⟩
