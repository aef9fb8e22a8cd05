/-! parts of a sentence: the reference -/
def alk (S : Nat → Bool) (v u u' : Nat) : Bool := aN (fun k => S (u + 2 ^ v * k) == S (u' + 2 ^ v * k)) (2 ^ (8 - v))
def hgn (S : Nat → Bool) (v u : Nat) : Bool := !(aN (fun k => S (u + 2 ^ v * k) == S ((u + 2 ^ v * k) ^^^ 2 ^ v)) (2 ^ (8 - v)))
def frs (S : Nat → Bool) (v u : Nat) : Nat → Bool := aN (fun u' => !(alk S v u u'))
def pcn (S : Nat → Bool) (v : Nat) : Nat → Nat := cN (fun u => hgn S v u && frs S v u u)
def ptot (S : Nat → Bool) : Nat → Nat
  | 0 => 0
  | v + 1 => ptot S v + pcn S v (2 ^ v)
theorem pw8 : ∀ v, v < 8 → 2 ^ v * 2 ^ (8 - v) = 256 ∧ 1 ≤ 2 ^ v ∧ 2 ^ v ≤ 128 ∧ 1 ≤ 2 ^ (8 - v) ∧ 2 ^ (8 - v) ≤ 256 := by decide
theorem pw_in {v u k : Nat} (hv : v < 8) (hu : u < 2 ^ v) (hk : k < 2 ^ (8 - v)) : u + 2 ^ v * k < 256 := by
  have h1 := Nat.mul_le_mul_left (2 ^ v) (show k + 1 ≤ 2 ^ (8 - v) from hk)
  rw [(pw8 v hv).1, Nat.mul_add, Nat.mul_one] at h1
  omega
theorem aN_mono {P : Nat → Bool} {k : Nat} (h : aN P k = false) {m : Nat} (hm : k ≤ m) : aN P m = false := by
  cases hA : aN P m
  · rfl
  · rw [aN_iff] at hA
    have : aN P k = true := (aN_iff P k).mpr (fun w hw => hA w (by omega))
    rw [this] at h
    exact absurd h (by decide)
theorem alike10 {so : Nat → Int32} {t : Nat} {S : Nat → Bool} (ht : t < 40) (hS : ∀ w, w < 256 → so (256 * t + w) = bi (S w)) {v u u' : Nat} (hv : v < 8) (hu : u < 2 ^ v) (hu' : u' < 2 ^ v) : f_X10_isLeftAlike so (nI t) (nI v) (nI u) (nI u') = some (bi (alk S v u u')) := by
  obtain ⟨p1, p2, p3, p4, p5⟩ := pw8 v hv
  unfold f_X10_isLeftAlike L_X10_isLeftAlike_6 alk
  generalize hf : (fun k => S (u + 2 ^ v * k) == S (u' + 2 ^ v * k)) = f
  refine oF_P0 (σ := Int32 × Int32) (fun k z => z = (bi (aN f k), nI (2 ^ v * k))) (2 ^ (8 - v)) (fun r => r = some (bi (aN f (2 ^ (8 - v))))) _ rfl (by omega) ?_ ?_
  · rintro k z k' hk rfl hk'
    dsimp only
    have hi := pw_in hv hu hk
    have hi' := pw_in hv hu' hk
    unfold b_X10_isLeftAlike_6 f_X10_isLeftAlike_71 f_X10_isLeftAlike_58
    rw [if_neg (by rw [i256, nI_le_iff (by omega) (by omega)]; omega)]
    cases hA : aN f k
    · rw [if_pos (show bi false = 0 from rfl), oZ_bi, aN_mono hA (by omega)]
    · rw [if_neg (by decide), oA_n (256 * t + (u + 2 ^ v * k)) _ (by rw [i256, nI_mul, nI_add, nI_add]; congr 1; omega) (by omega) (by decide), oA_n (256 * t + (u' + 2 ^ v * k)) _ (by rw [i256, nI_mul, nI_add, nI_add]; congr 1; omega) (by omega) (by decide), hS _ hi, hS _ hi']
      simp only [bi_inj, oL_s, one_shl v (show v ≤ 10 by omega), nI_add]
      have e1 : 2 ^ v * k + 2 ^ v = 2 ^ v * (k + 1) := by rw [Nat.mul_add, Nat.mul_one]
      have e2 : aN f (k + 1) = (S (u + 2 ^ v * k) == S (u' + 2 ^ v * k)) := by
        rw [aN, hA, Bool.true_and, ← hf]
      rw [e1]
      by_cases hc : S (u + 2 ^ v * k) = S (u' + 2 ^ v * k)
      · rw [if_pos hc]
        refine hk' _ ?_
        rw [e2, hc]; simp [bi]
      · rw [if_neg hc]
        refine hk' _ ?_
        rw [e2, beq_eq_false_iff_ne.mpr hc]; rfl
  · rintro z k rfl
    dsimp only
    unfold b_X10_isLeftAlike_6 f_X10_isLeftAlike_71
    rw [if_pos (by rw [p1]; decide), oZ_bi]
theorem hangsNext10 {so : Nat → Int32} {t : Nat} {S : Nat → Bool} (ht : t < 40) (hS : ∀ w, w < 256 → so (256 * t + w) = bi (S w)) {v u : Nat} (hv : v < 8) (hu : u < 2 ^ v) : f_X10_hangsOnNext so (nI t) (nI v) (nI u) = some (bi (hgn S v u)) := by
  obtain ⟨p1, p2, p3, p4, p5⟩ := pw8 v hv
  unfold f_X10_hangsOnNext L_X10_hangsOnNext_6 hgn
  generalize hf : (fun k => S (u + 2 ^ v * k) == S ((u + 2 ^ v * k) ^^^ 2 ^ v)) = f
  refine oF_run0 (fun k => (bi (!(aN f k)), nI (u + 2 ^ v * k))) (2 ^ (8 - v)) _ rfl (by omega) ?_ ?_
  · intro k hk k'
    dsimp only
    have hi := pw_in hv hu hk
    obtain ⟨d1, d2⟩ := sp_D v hv _ hi
    unfold b_X10_hangsOnNext_6 f_X10_hangsOnNext_52 f_X10_hangsOnNext_57
    have e1 : u + 2 ^ v * k + 2 ^ v = u + 2 ^ v * (k + 1) := by rw [Nat.mul_add, Nat.mul_one]; omega
    have e2 : aN f (k + 1) = (aN f k && (S (u + 2 ^ v * k) == S ((u + 2 ^ v * k) ^^^ 2 ^ v))) := by rw [aN, ← hf]
    rw [if_neg (by rw [i256, nI_le_iff (by omega) (by omega)]; omega), oA_n (256 * t + (u + 2 ^ v * k)) _ (by rw [i256, nI_mul, nI_add]) (by omega) (by decide), oA_n (256 * t + ((u + 2 ^ v * k) ^^^ 2 ^ v)) _ (by rw [d2, i256, nI_mul, nI_add]) (by omega) (by decide), hS _ hi, hS _ d1]
    simp only [bi_inj, oL_s, one_shl v (show v ≤ 10 by omega), nI_add, e1, e2, bi_0]
    generalize aN f k = A
    generalize S (u + 2 ^ v * k) = a
    generalize S ((u + 2 ^ v * k) ^^^ 2 ^ v) = b
    cases A <;> cases a <;> cases b <;> rfl
  · intro k
    dsimp only
    unfold b_X10_hangsOnNext_6
    rw [if_pos (by rw [p1, i256, nI_le_iff (by omega) (by omega)]; omega), oZ_bi]
theorem parts34 {so : Nat → Int32} {t : Nat} {S : Nat → Bool} (ht : t < 40) (hS : ∀ w, w < 256 → so (256 * t + w) = bi (S w)) {v u : Nat} (hv : v < 8) (hu : u < 2 ^ v) (x2 : Nat) (k13 : Int32 × Int32 → Option Int32) : L_X10_parts_34 so (nI t) (nI x2) (nI v) (nI u) k13 (bi (hgn S v u), 0) = k13 (nI (x2 + (if hgn S v u && frs S v u u then 1 else 0)), nI (u + 1)) := by
  obtain ⟨p1, p2, p3, p4, p5⟩ := pw8 v hv
  unfold L_X10_parts_34
  have h72 : ∀ b : Bool, f_X10_parts_72 (nI x2) (nI u) (bi b) k13 = k13 (nI (x2 + (if b then 1 else 0)), nI (u + 1)) := by
    intro b
    unfold f_X10_parts_72 f_X10_parts_83
    cases b
    · rw [if_pos (show bi false = 0 from rfl), oL_s, oL_s, add_z, nI_1]; rfl
    · rw [if_neg (by decide), oL_s, oL_s, nI_1, nI_1]; rfl
  refine oF_P0 (σ := Int32 × Int32) (fun j z => z = (bi (hgn S v u && frs S v u j), nI j)) u (fun r => r = k13 (nI (x2 + (if hgn S v u && frs S v u u then 1 else 0)), nI (u + 1))) _ (by show _ = (bi (hgn S v u && true), nI 0); rw [Bool.and_true]; rfl) (by omega) ?_ ?_
  · rintro j z k hj rfl hk
    dsimp only
    unfold b_X10_parts_34 f_X10_parts_64
    rw [if_neg (by rw [nI_le_iff (by omega) (by omega)]; omega)]
    cases hA : (hgn S v u && frs S v u j)
    · rw [if_pos (show bi false = 0 from rfl), h72]
      have : (hgn S v u && frs S v u u) = false := by
        rw [Bool.and_eq_false_iff] at hA ⊢
        rcases hA with h | h
        · exact Or.inl h
        · exact Or.inr (aN_mono h (by omega))
      rw [this]
    · rw [if_neg (by decide), alike10 ht hS hv hu (by omega), oB1_s]
      rw [Bool.and_eq_true] at hA
      simp only [bi_0, oL_s, nI_1]
      have e2 : frs S v u (j + 1) = !(alk S v u j) := by
        show (frs S v u j && !(alk S v u j)) = _
        rw [hA.2, Bool.true_and]
      cases hal : alk S v u j
      · rw [if_pos rfl]
        refine hk _ ?_
        rw [hA.1, e2, hal]; rfl
      · rw [if_neg (by decide)]
        refine hk _ ?_
        rw [hA.1, e2, hal]; rfl
  · rintro z k rfl
    dsimp only
    unfold b_X10_parts_34
    rw [if_pos (by rw [nI_le_iff (by omega) (by omega)]; omega), h72]
theorem ptot_le (S : Nat → Bool) : ∀ v, v ≤ 8 → ptot S v ≤ 256 * v := by
  intro v
  induction v with
  | zero => intro _; exact Nat.le_refl _
  | succ v ih =>
    intro h
    have h1 := ih (by omega)
    have h2 := cN_le (fun u => hgn S v u && frs S v u u) (2 ^ v)
    have h3 := (pw8 v (by omega)).2.2.1
    show ptot S v + pcn S v (2 ^ v) ≤ _
    unfold pcn
    omega
theorem parts10 {so : Nat → Int32} {t : Nat} {S : Nat → Bool} (ht : t < 40) (hS : ∀ w, w < 256 → so (256 * t + w) = bi (S w)) : f_X10_parts so (nI t) = some (nI (ptot S 8)) := by
  unfold f_X10_parts L_X10_parts_4
  refine oF_run0 (fun v => (nI (ptot S v), nI v)) 8 _ rfl (by omega) ?_ ?_
  · intro v hv k4
    dsimp only
    unfold b_X10_parts_4
    rw [if_neg (by rw [i8, nI_le_iff (by omega) (by omega)]; omega)]
    unfold L_X10_parts_13
    obtain ⟨p1, p2, p3, p4, p5⟩ := pw8 v hv
    refine oF_run0 (fun u => (nI (ptot S v + pcn S v u), nI u)) (2 ^ v) _ rfl (by omega) ?_ ?_
    · intro u hu k13
      dsimp only
      unfold b_X10_parts_13
      rw [if_neg (by rw [one_shl v (by omega), nI_le_iff (by omega) (by omega)]; omega), hangsNext10 ht hS hv hu, oB1_s, parts34 ht hS hv hu, Nat.add_assoc]
      rfl
    · intro k13
      dsimp only
      unfold b_X10_parts_13
      rw [if_pos (by rw [one_shl v (by omega), nI_le_iff (by omega) (by omega)]; omega), oL_s, nI_1]
      rfl
  · intro k
    dsimp only
    unfold b_X10_parts_4
    rw [if_pos (show (8 : Int32) ≤ nI 8 by decide)]
