/-! parties: a number, an end, of both -/
theorem oB9_s {α1 α2 α3 α4 α5 α6 α7 α8 α9 β : Type} (x1 : α1) (x2 : α2) (x3 : α3) (x4 : α4) (x5 : α5) (x6 : α6) (x7 : α7) (x8 : α8) (x9 : α9) (k : α1 → α2 → α3 → α4 → α5 → α6 → α7 → α8 → α9 → Option β) : oB9 (some (x1, x2, x3, x4, x5, x6, x7, x8, x9)) k = k x1 x2 x3 x4 x5 x6 x7 x8 x9 := rfl
theorem oB10_s {α1 α2 α3 α4 α5 α6 α7 α8 α9 α10 β : Type} (x1 : α1) (x2 : α2) (x3 : α3) (x4 : α4) (x5 : α5) (x6 : α6) (x7 : α7) (x8 : α8) (x9 : α9) (x10 : α10) (k : α1 → α2 → α3 → α4 → α5 → α6 → α7 → α8 → α9 → α10 → Option β) : oB10 (some (x1, x2, x3, x4, x5, x6, x7, x8, x9, x10)) k = k x1 x2 x3 x4 x5 x6 x7 x8 x9 x10 := rfl
theorem oB12_s {α1 α2 α3 α4 α5 α6 α7 α8 α9 α10 α11 α12 β : Type} (x1 : α1) (x2 : α2) (x3 : α3) (x4 : α4) (x5 : α5) (x6 : α6) (x7 : α7) (x8 : α8) (x9 : α9) (x10 : α10) (x11 : α11) (x12 : α12) (k : α1 → α2 → α3 → α4 → α5 → α6 → α7 → α8 → α9 → α10 → α11 → α12 → Option β) : oB12 (some (x1, x2, x3, x4, x5, x6, x7, x8, x9, x10, x11, x12)) k = k x1 x2 x3 x4 x5 x6 x7 x8 x9 x10 x11 x12 := rfl
theorem oB13_s {α1 α2 α3 α4 α5 α6 α7 α8 α9 α10 α11 α12 α13 β : Type} (x1 : α1) (x2 : α2) (x3 : α3) (x4 : α4) (x5 : α5) (x6 : α6) (x7 : α7) (x8 : α8) (x9 : α9) (x10 : α10) (x11 : α11) (x12 : α12) (x13 : α13) (k : α1 → α2 → α3 → α4 → α5 → α6 → α7 → α8 → α9 → α10 → α11 → α12 → α13 → Option β) : oB13 (some (x1, x2, x3, x4, x5, x6, x7, x8, x9, x10, x11, x12, x13)) k = k x1 x2 x3 x4 x5 x6 x7 x8 x9 x10 x11 x12 x13 := rfl
/-- a number read by both -/
def NB (letters text : Nat → Int32) (L at_ b : Nat) (hi : Int32) : Prop :=
  (∃ (f : Int32) (p q : Nat), ¬ f = 0 ∧ ¬ f ≤ 0 ∧ at_ ≤ q ∧ q ≤ L ∧ (∀ na fa, f_X7_readNumber (nI L) (nI at_) na 0 fa letters hi = some (0, nI q, nI p, f, nI p)) ∧ (∀ fp num na, ∃ num' na', f_X10_takeNumber (nI L) fp (nI at_) num na text 0 hi = some (f, nI p, nI q, num', na'))) ∨
  (∃ v p q : Nat, v < b ∧ v < 1000 ∧ at_ < q ∧ q ≤ L ∧ (∀ na fa, f_X7_readNumber (nI L) (nI at_) na 0 fa letters hi = some (nI v, nI q, nI p, 0, fa)) ∧ (∀ fp num na, f_X10_takeNumber (nI L) fp (nI at_) num na text 0 hi = some (0, fp, nI q, nI v, nI p)))
theorem num_ok {letters text : Nat → Int32} {L at_ b : Nat} {hi : Int32} (ht : TR letters text L) (h : at_ ≤ L) (hh : ∀ x, x < 1000 → (nI x ≤ hi ↔ x < b)) : NB letters text L at_ b hi := by
  obtain ⟨hL, ht⟩ := ht
  have hl : ∀ i, i < L → letters i = text i := fun i hi => (ht i hi).1
  obtain ⟨p, h1, h2, h3, h4⟩ := blank_ex text h
  obtain ⟨q, k1, k2, k3, k4⟩ := run_ex text h2
  have e9 := fun na fa => readNumber9 hL hl h1 h2 h3 h4 k1 k2 k3 k4 hh na fa
  have e10 := fun fp num na => takeNumber10 hL h1 h2 h3 h4 k1 k2 k3 k4 hh fp num na
  by_cases q0 : q = p
  · left
    refine ⟨1, p, p, by decide, by decide, h1, h2, fun na fa => ?_, fun fp num na => ?_⟩
    · rw [e9, if_pos q0]
    · obtain ⟨num', e⟩ := e10 fp num na
      rw [e, if_pos q0]
      exact ⟨num, na, rfl⟩
  · by_cases qv : q - p ≤ 3 ∧ dv text p (q - p) < b
    · right
      have hb : dv text p (q - p) < 1000 := by
        have := dv_b (text := text) (p := p) (q - p) qv.1 (fun i hi => k3 _ (by omega) (by omega))
        have h9 : 10 ^ (q - p) ≤ 10 ^ 3 := Nat.pow_le_pow_right (by decide) qv.1
        omega
      refine ⟨dv text p (q - p), p, q, qv.2, hb, by omega, k2, fun na fa => ?_, fun fp num na => ?_⟩
      · rw [e9, if_neg q0, if_pos qv]
      · obtain ⟨num', e⟩ := e10 fp num na
        rw [e, if_neg q0, if_pos qv]
    · left
      refine ⟨2, p, q, by decide, by decide, by omega, k2, fun na fa => ?_, fun fp num na => ?_⟩
      · rw [e9, if_neg q0, if_neg qv]
      · obtain ⟨num', e⟩ := e10 fp num na
        rw [e, if_neg q0, if_neg qv]
        exact ⟨num', nI p, rfl⟩
theorem hb255 : ∀ x, x < 1000 → (nI x ≤ (255 : Int32) ↔ x < 256) := fun x hx => by rw [i255, nI_le_iff (by omega) (by omega)]; omega
theorem hb7 : ∀ x, x < 1000 → (nI x ≤ (7 : Int32) ↔ x < 8) := fun x hx => by rw [i7, nI_le_iff (by omega) (by omega)]; omega
theorem hbn {n : Nat} (hn : n < 2 ^ 31) : ∀ x, x < 1000 → (nI x ≤ nI n - 1 ↔ x < n) := fun x hx => by
  rw [le_toInt, nI_sub1_toInt hn, nI_toInt (by omega)]; omega
theorem readNumber_f (L at_ na f fa : Int32) (letters : Nat → Int32) (hi : Int32) (hf : ¬ f = 0) : f_X7_readNumber L at_ na f fa letters hi = some (0, at_, na, f, fa) := by
  unfold f_X7_readNumber; rw [if_neg hf]
theorem readEnd_f (L at_ f fa : Int32) (letters : Nat → Int32) (hf : ¬ f = 0) : f_X7_readEnd L at_ f fa letters = some (at_, f, fa) := by
  unfold f_X7_readEnd; rw [if_neg hf]
/-- an end read by both -/
def EB (letters text : Nat → Int32) (L at_ : Nat) : Prop :=
  (∃ p : Nat, at_ ≤ p ∧ p ≤ L ∧ (∀ fa, f_X7_readEnd (nI L) (nI at_) 0 fa letters = some (nI p, 1, nI p)) ∧ ∃ r : Int32, f_X10_here (nI L) (nI at_) text = some (r, nI p) ∧ ¬ r = 59) ∨
  (∃ p : Nat, at_ ≤ p ∧ p < L ∧ (∀ fa, f_X7_readEnd (nI L) (nI at_) 0 fa letters = some (nI (p + 1), 0, fa)) ∧ f_X10_here (nI L) (nI at_) text = some (59, nI p))
theorem end_ok {letters text : Nat → Int32} {L at_ : Nat} (ht : TR letters text L) (h : at_ ≤ L) : EB letters text L at_ := by
  obtain ⟨hL, ht⟩ := ht
  have hl : ∀ i, i < L → letters i = text i := fun i hi => (ht i hi).1
  obtain ⟨p, h1, h2, h3, h4⟩ := blank_ex text h
  have e10 := here10 hL h1 h2 h3 h4
  have e9 : ∀ fa, f_X7_readEnd (nI L) (nI at_) 0 fa letters = if p < L ∧ text p = 59 then some (nI (p + 1), 0, fa) else some (nI p, 1, nI p) := by
    intro fa
    unfold f_X7_readEnd f_X7_readEnd_50 f_X7_blame
    rw [if_pos rfl, skip9 hL hl h1 h2 h3 h4, oB1_s, oB2_s]
    by_cases e : p < L
    · rw [if_neg (by rw [nI_le_iff (by omega) (by omega)]; omega), oA_n p _ rfl (by omega) (by decide), hl p e, oL_s, nI_1]
      by_cases e2 : text p = 59
      · rw [if_pos e2, if_pos ⟨e, e2⟩]
      · rw [if_neg e2, if_neg (fun hx => e2 hx.2)]
    · rw [if_pos (by rw [nI_le_iff (by omega) (by omega)]; omega), if_neg (fun hx => e hx.1)]
  by_cases e : p < L ∧ text p = 59
  · right
    refine ⟨p, h1, e.1, fun fa => ?_, ?_⟩
    · rw [e9, if_pos e]
    · rw [e10, if_pos e.1, e.2]
  · left
    refine ⟨p, h1, h2, fun fa => ?_, _, e10, ?_⟩
    · rw [e9, if_neg e]
    · by_cases e1 : p < L
      · rw [if_pos e1]; exact fun hx => e ⟨e1, hx⟩
      · rw [if_neg e1]; decide
