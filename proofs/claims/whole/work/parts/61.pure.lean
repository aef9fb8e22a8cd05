/-! clauses' letters, colours, the first empty step -/
def lo (as not party : Nat → Int32) (who : Int32) : Nat → Int32
  | 0 => 0
  | s + 1 => lo as not party who s ||| (if party s = who then as s ||| not s else 0)
theorem lettersOf_eq (as not party : Nat → Int32) (who : Int32) {cl : Nat} (h : cl ≤ 40) : f_X10_lettersOf (nI cl) as not party who = some (lo as not party who cl) := by
  unfold f_X10_lettersOf L_X10_lettersOf_4
  refine oF_run0 (fun i => (lo as not party who i, nI i)) cl _ rfl (by omega) ?_ ?_
  · intro i hi k
    show b_X10_lettersOf_4 _ _ _ _ _ k (lo as not party who i) (nI i) = _
    unfold b_X10_lettersOf_4 f_X10_lettersOf_40
    rw [if_neg (by rw [nI_le_iff (by omega) (by omega)]; omega)]
    simp only [oA40 (show i < 40 by omega), oL_s, nI_1]
    by_cases h1 : party i = who
    · simp only [h1, if_true, lo]
    · simp only [h1, if_false, lo]
  · intro k
    show b_X10_lettersOf_4 _ _ _ _ _ k (lo as not party who cl) (nI cl) = _
    unfold b_X10_lettersOf_4
    rw [if_pos (by rw [nI_le_iff (by omega) (by omega)]; omega)]
theorem lo_congr {as not party as' not' party' : Nat → Int32} (who : Int32) : ∀ {cl : Nat}, (∀ s, s < cl → as s = as' s ∧ not s = not' s ∧ party s = party' s) → lo as not party who cl = lo as' not' party' who cl := by
  intro cl
  induction cl with
  | zero => intro _; rfl
  | succ n ih =>
    intro h
    have h1 := h n (by omega)
    show lo as not party who n ||| _ = lo as' not' party' who n ||| _
    rw [ih (fun s hs => h s (by omega)), h1.1, h1.2.1, h1.2.2]
theorem lo_B8 {as not party : Nat → Int32} (who : Int32) : ∀ {cl : Nat}, (∀ s, s < cl → B8 (as s) ∧ B8 (not s)) → B8 (lo as not party who cl) := by
  intro cl
  induction cl with
  | zero => intro _; exact B8_0
  | succ n ih =>
    intro h
    refine B8_or (ih (fun s hs => h s (by omega))) ?_
    by_cases h1 : party n = who
    · rw [if_pos h1]; exact B8_or (h n (by omega)).1 (h n (by omega)).2
    · rw [if_neg h1]; exact B8_0
/-- the colour by the letters of both -/
def col (la lb : Int32) (v : Nat) : Int32 := if bt la v then (if bt lb v then 2 else 0) else (if bt lb v then 1 else -1)
theorem colourOf9 (la lb : Int32) {v : Nat} (hv : v < 32) : f_X5_colourOf la lb (nI v) = some (col la lb v) := by
  unfold f_X5_colourOf f_X5_colourOf_17 f_X5_colourOf_35 col
  simp only [bit_sh _ hv]
  cases bt la v <;> cases bt lb v <;> rfl
theorem colourOf10 (as not party : Nat → Int32) {cl v : Nat} (h : cl ≤ 40) (hv : v < 32) : f_X10_colourOf (nI cl) as not party (nI v) = some (col (lo as not party 0 cl) (lo as not party 1 cl) v) := by
  unfold f_X10_colourOf f_X10_colourOf_32 col
  simp only [lettersOf_eq _ _ _ _ h, oB1_s, has10_eq _ hv]
  cases bt (lo as not party 0 cl) v <;> cases bt (lo as not party 1 cl) v <;> rfl
theorem shared_eq (as not party : Nat → Int32) {cl : Nat} (h : cl ≤ 40) : f_X10_shared (nI cl) as not party = some (lo as not party 0 cl &&& lo as not party 1 cl) := by
  unfold f_X10_shared
  simp only [lettersOf_eq _ _ _ _ h, oB1_s]
/-- the first empty step -/
theorem first_ex (a b : Nat → Int32) (n : Nat) : ∃ e, e ≤ n ∧ (∀ i, i < e → ¬ (a i ||| b i) = 0) ∧ (e < n → (a e ||| b e) = 0) := by
  obtain ⟨e, h1, h2⟩ := pk_least (fun k => k = n ∨ (a k ||| b k) = 0) ⟨n, Or.inl rfl⟩
  refine ⟨e, ?_, fun i hi h => h2 i hi (Or.inr h), fun he => h1.resolve_left (by omega)⟩
  rcases Nat.lt_or_ge n e with h | h
  · exact absurd (Or.inl rfl) (h2 n h)
  · exact h
def feV (e n : Nat) : Int32 := if e < n then nI e else -1
theorem firstEmpty10 (a b : Nat → Int32) {n e : Nat} (hn : n ≤ 40) (he : e ≤ n) (h1 : ∀ i, i < e → ¬ (a i ||| b i) = 0) (h2 : e < n → (a e ||| b e) = 0) : f_X10_firstEmpty (nI n) a b = some (feV e n) := by
  unfold f_X10_firstEmpty L_X10_firstEmpty_2
  refine oF_run0 (fun i => nI i) e _ rfl (by omega) ?_ ?_
  · intro i hi k
    unfold b_X10_firstEmpty_2
    rw [if_neg (by rw [nI_le_iff (by omega) (by omega)]; omega)]
    simp only [oA40 (show i < 40 by omega), oL_s, nI_1, h1 i hi, if_false]
  · intro k
    unfold b_X10_firstEmpty_2 f_X10_firstEmpty_32 feV
    rcases Nat.lt_or_ge e n with h | h
    · have hc : ¬ nI n ≤ nI e := by rw [nI_le_iff (by omega) (by omega)]; omega
      simp only [oA40 (show e < 40 by omega), h2 h, if_true, h, if_neg hc]
    · have hc : nI n ≤ nI e := by rw [nI_le_iff (by omega) (by omega)]; omega
      rw [if_pos hc, if_pos hc, if_neg (by omega)]
theorem isEmpty9 (c : Nat → Int32) {s : Nat} (hs : s < 40) : f_X5_isEmpty c (nI s) = some (bi (decide ((c (8 * s) ||| c (8 * s + 1)) = 0))) := by
  unfold f_X5_isEmpty
  rw [cell0 c hs, oB1_s, cell1 c hs, oB1_s]
  by_cases h : (c (8 * s) ||| c (8 * s + 1)) = 0
  · simp [h, bi]
  · simp [h, bi]
theorem firstEmpty9 (c : Nat → Int32) {n e : Nat} (hn : n ≤ 40) (he : e ≤ n) (h1 : ∀ i, i < e → ¬ (c (8 * i) ||| c (8 * i + 1)) = 0) (h2 : e < n → (c (8 * e) ||| c (8 * e + 1)) = 0) : f_X5_firstEmpty (nI n) c = some (feV e n) := by
  unfold f_X5_firstEmpty L_X5_firstEmpty_2
  refine oF_run0 (fun i => nI i) e _ rfl (by omega) ?_ ?_
  · intro i hi k
    unfold b_X5_firstEmpty_2
    rw [if_neg (by rw [nI_le_iff (by omega) (by omega)]; omega), isEmpty9 c (by omega), oB1_s, decide_eq_false (h1 i hi)]
    simp only [oL_s, nI_1]
    rfl
  · intro k
    unfold b_X5_firstEmpty_2 feV
    rcases Nat.lt_or_ge e n with h | h
    · rw [if_neg (by rw [nI_le_iff (by omega) (by omega)]; omega), isEmpty9 c (by omega), oB1_s, decide_eq_true (h2 h), if_pos h]
      rfl
    · rw [if_pos (by rw [nI_le_iff (by omega) (by omega)]; omega), if_neg (by omega)]
/-- a clause in a world -/
def CH (p n : Int32) (w : Int32) : Bool := decide (¬ (p &&& w) = 0) || decide (¬ (n &&& (w ^^^ (-1 : Int32))) = 0)
theorem holdsIn10 (a b : Nat → Int32) {s : Nat} (hs : s < 40) (w : Int32) : f_X10_holdsIn a b (nI s) w = some (bi (CH (a s) (b s) w)) := by
  unfold f_X10_holdsIn f_X10_holdsIn_24 CH
  simp only [oA40 hs]
  generalize (w ^^^ (-1 : Int32)) = w'
  by_cases h1 : (a s &&& w) = 0
  · by_cases h2 : (b s &&& w') = 0
    · simp [h1, h2, bi]
    · simp [h1, h2, bi]
  · simp [h1, bi]
/-- the steps of both: class cells c, reference rows a (as), b (not), pt, o1, o2, by -/
def SR (c a b pt o1 o2 by_ : Nat → Int32) (cl n : Nat) : Prop :=
  cl ≤ 10 ∧ cl ≤ n ∧ n ≤ cl + 30 ∧
  (∀ s, s < n → c (8 * s) = a s ∧ c (8 * s + 1) = b s ∧ c (8 * s + 2) = pt s ∧ c (8 * s + 3) = o1 s ∧ c (8 * s + 4) = o2 s ∧ c (8 * s + 5) = by_ s ∧ B8 (a s) ∧ B8 (b s)) ∧
  (∀ s, s < cl → (pt s = 0 ∨ pt s = 1) ∧ c (8 * s + 6) = (1 : Int32) <<< (nI s &&& 31) ∧ c (8 * s + 7) = 1) ∧
  (∀ s, cl ≤ s → s < n → ∃ i j v, i < s ∧ j < s ∧ v < 8 ∧ o1 s = nI i ∧ o2 s = nI j ∧ by_ s = nI v ∧ c (8 * s + 6) = (c (8 * i + 6) ||| c (8 * j + 6)) ∧ c (8 * s + 7) = 1 + (if c (8 * i + 7) < c (8 * j + 7) then c (8 * j + 7) else c (8 * i + 7)))
theorem holds_ok {c a b pt o1 o2 by_ : Nat → Int32} {cl n : Nat} (h : SR c a b pt o1 o2 by_ cl n) (x w : Int32) : ∃ r, f_X9_holds (nI n) c x w = some r ∧ f_X10_holds (nI n) a b x w = some r := by
  obtain ⟨h1, h2, h3, h4, -, -⟩ := h
  unfold f_X9_holds f_X10_holds
  rw [isStep_eq (by omega), in_eq0 w 255 255 rfl]
  rcases i_cases x n (by omega) with ⟨s, hs, rfl⟩ | hx
  · rw [has_in hs (by omega), oB1_s, oB1_s]
    simp only [show ¬ (1 : Int32) = 0 by decide, if_false, within_eq, oB1_s]
    cases hb : decide ((0 : Int32) ≤ w ∧ w ≤ 255)
    · exact ⟨_, rfl, rfl⟩
    · obtain ⟨g1, g2, -⟩ := h4 s hs
      simp only [show ¬ bi true = 0 by decide, if_false]
      rw [cell0 c (by omega), oB1_s, g1, holdsIn10 a b (by omega), oB1_s]
      unfold f_X9_holds_47 f_X9_holds_69 f_X9_holds_80 CH
      rw [cell1 c (by omega), oB1_s, g2]
      generalize (w ^^^ (-1 : Int32)) = w'
      by_cases q1 : (a s &&& w) = 0
      · by_cases q2 : (b s &&& w') = 0
        · exact ⟨0, by simp [q1, q2], by simp [q1, q2, bi]⟩
        · exact ⟨1, by simp [q1, q2], by simp [q1, q2, bi]⟩
      · by_cases q2 : (b s &&& w') = 0
        · exact ⟨1, by simp [q1, q2, oB1_s], by simp [q1, bi]⟩
        · exact ⟨1, by simp [q1, q2, oB1_s], by simp [q1, bi]⟩
  · rw [has_out hx, oB1_s, oB1_s]
    exact ⟨_, rfl, rfl⟩
theorem colour_ok (as not party : Nat → Int32) {cl : Nat} (h : cl ≤ 40) (x : Int32) : ∃ r, f_X9_colour (lo as not party 0 cl) (lo as not party 1 cl) x = some r ∧ f_X10_colour (nI cl) as not party x = some r := by
  unfold f_X9_colour f_X10_colour
  rw [isLetter_eq]
  rcases i_cases x 8 (by omega) with ⟨v, hv, rfl⟩ | hx
  · rw [show f_X9_within (nI v) 0 7 = some 1 from wi_in (m := 7) (by omega) (by decide), oB1_s, oB1_s, colourOf9 _ _ (by omega), colourOf10 _ _ _ h (by omega), oB1_s]
    exact ⟨_, rfl, rfl⟩
  · rw [show f_X9_within x 0 7 = some 0 from wi_out (m := 7) (by decide) hx, oB1_s, oB1_s]
    exact ⟨_, rfl, rfl⟩
/-- the text of both -/
def TR (letters text : Nat → Int32) (L : Nat) : Prop := L ≤ 240 ∧ ∀ k, k < L → letters k = text k ∧ ∃ x, x < 256 ∧ text k = nI x
theorem feed_ok {letters text : Nat → Int32} {L : Nat} (h : TR letters text L) (x : Int32) : ∃ r letters' text' L', f_X9_feed (nI L) letters x = some (r, letters', nI L') ∧ f_X10_feed (nI L) text x = some (r, text', nI L') ∧ TR letters' text' L' := by
  obtain ⟨hL, ht⟩ := h
  unfold f_X9_feed f_X10_feed f_X7_add
  rw [in_eq0 x 255 255 rfl]
  rcases i_cases x 256 (by omega) with ⟨v, hv, rfl⟩ | hx
  · rw [show f_X9_within (nI v) 0 255 = some 1 from wi_in (m := 255) (by omega) (by decide), oB1_s, oB1_s]
    simp only [show ¬ (1 : Int32) = 0 by decide, if_false]
    rcases Nat.lt_or_ge L 240 with h | h
    · rw [if_pos (by rw [i240, nI_lt_iff (by omega) (by omega)]; exact h), if_neg (by rw [i240, nI_inj (by omega) (by omega)]; omega), oA_n L _ rfl h (by decide), oA_n L _ rfl h (by decide)]
      simp only [oL_s, oB3_s, nI_1, show ¬ (1 : Int32) = 0 by decide, if_false]
      refine ⟨_, _, _, _, rfl, rfl, by omega, fun k hk => ?_⟩
      by_cases e : k = L
      · subst e; rw [upd_s, upd_s]; exact ⟨rfl, v, hv, rfl⟩
      · rw [upd_n _ _ e, upd_n _ _ e]; exact ht k (by omega)
    · have e : L = 240 := by omega
      subst e
      rw [if_neg (by rw [i240, nI_lt_iff (by omega) (by omega)]; omega), if_pos (show nI 240 = 240 from rfl), oB3_s]
      exact ⟨_, _, _, _, rfl, rfl, hL, ht⟩
  · rw [show f_X9_within x 0 255 = some 0 from wi_out (m := 255) (by decide) hx, oB1_s, oB1_s]
    exact ⟨_, _, _, _, rfl, rfl, hL, ht⟩
