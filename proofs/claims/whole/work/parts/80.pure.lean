/-! parts of a sentence: the class -/
theorem alk_iff (S : Nat → Bool) (v u u' : Nat) : alk S v u u' = true ↔ ∀ k, k < 2 ^ (8 - v) → S (u + 2 ^ v * k) = S (u' + 2 ^ v * k) := by
  unfold alk
  rw [aN_iff]
  constructor
  · intro h k hk; exact beq_iff_eq.mp (h k hk)
  · intro h k hk; exact beq_iff_eq.mpr (h k hk)
theorem pw_half {v : Nat} (hv : v < 8) : 2 ^ (8 - v) = 2 * 2 ^ (8 - (v + 1)) ∧ 2 ^ (v + 1) = 2 * 2 ^ v := by
  refine ⟨?_, by rw [Nat.pow_succ, Nat.mul_comm]⟩
  rw [show 8 - v = 8 - (v + 1) + 1 by omega, Nat.pow_succ, Nat.mul_comm]
theorem alk_split (S : Nat → Bool) {v : Nat} (hv : v < 8) (u u' : Nat) : alk S v u u' = true ↔ (alk S (v + 1) u u' = true ∧ alk S (v + 1) (u + 2 ^ v) (u' + 2 ^ v) = true) := by
  obtain ⟨e1, e2⟩ := pw_half hv
  rw [alk_iff, alk_iff, alk_iff, e1, e2]
  generalize 2 ^ (8 - (v + 1)) = m
  generalize 2 ^ v = p
  have f1 : ∀ a k, a + 2 * p * k = a + p * (2 * k) := fun a k => by rw [Nat.mul_comm 2 p, Nat.mul_assoc]
  have f2 : ∀ a k, a + p + 2 * p * k = a + p * (2 * k + 1) := fun a k => by rw [Nat.mul_comm 2 p, Nat.mul_assoc, Nat.mul_add, Nat.mul_one]; omega
  constructor
  · intro h
    refine ⟨fun k hk => ?_, fun k hk => ?_⟩
    · rw [f1, f1]; exact h _ (by omega)
    · rw [f2, f2]; exact h _ (by omega)
  · rintro ⟨h1, h2⟩ k hk
    rcases Nat.mod_two_eq_zero_or_one k with e | e
    · have := h1 (k / 2) (by omega)
      rw [f1, f1, show 2 * (k / 2) = k by omega] at this
      exact this
    · have := h2 (k / 2) (by omega)
      rw [f2, f2, show 2 * (k / 2) + 1 = k by omega] at this
      exact this
theorem sp_E : ∀ v, v < 8 → ∀ u, u < 2 ^ v → ∀ k, k < 2 ^ (8 - v) → (u + 2 ^ v * k) ^^^ 2 ^ v = u + 2 ^ v * (if k % 2 = 0 then k + 1 else k - 1) := by decide +kernel
theorem hgn_iff (S : Nat → Bool) {v u : Nat} (hv : v < 8) (hu : u < 2 ^ v) : hgn S v u = true ↔ ¬ alk S (v + 1) u (u + 2 ^ v) = true := by
  have hE := sp_E v hv u hu
  obtain ⟨e1, e2⟩ := pw_half hv
  unfold hgn
  rw [Bool.not_eq_true', ← Bool.not_eq_true, aN_iff, alk_iff]
  apply not_congr
  rw [e1] at hE ⊢
  rw [e2]
  generalize 2 ^ (8 - (v + 1)) = m at *
  generalize 2 ^ v = p at *
  have f1 : ∀ a k, a + 2 * p * k = a + p * (2 * k) := fun a k => by rw [Nat.mul_comm 2 p, Nat.mul_assoc]
  have f2 : ∀ a k, a + p + 2 * p * k = a + p * (2 * k + 1) := fun a k => by rw [Nat.mul_comm 2 p, Nat.mul_assoc, Nat.mul_add, Nat.mul_one]; omega
  constructor
  · intro h k hk
    have h0 := beq_iff_eq.mp (h (2 * k) (by omega))
    rw [hE (2 * k) (by omega), if_pos (by omega)] at h0
    rw [f1, f2]; exact h0
  · intro h k hk
    rw [beq_iff_eq, hE k hk]
    rcases Nat.mod_two_eq_zero_or_one k with e | e
    · have := h (k / 2) (by omega)
      rw [f1, f2, show 2 * (k / 2) = k by omega] at this
      rw [if_pos e]; exact this
    · have := h (k / 2) (by omega)
      rw [f1, f2, show 2 * (k / 2) + 1 = k by omega, show 2 * (k / 2) = k - 1 by omega] at this
      rw [if_neg (by omega)]; exact this.symm
theorem nameOf9 {pairs : Nat → Int32} {P : Nat → Nat} {first cnt pr : Nat} (hf : first ≤ cnt) (hc : cnt < 256) (hP : ∀ j, first ≤ j → j < cnt → pairs j = nI (P j) ∧ P j < 2 ^ 20) (hpr : pr < 2 ^ 20) :
    (∃ j, first ≤ j ∧ j < cnt ∧ P j = pr ∧ f_X3_nameOf (nI cnt) pairs (nI pr) (nI first) = some (nI (j + 2), pairs, nI cnt)) ∨ ((∀ j, first ≤ j → j < cnt → P j ≠ pr) ∧ f_X3_nameOf (nI cnt) pairs (nI pr) (nI first) = some (nI (cnt + 2), upd pairs cnt (nI pr), nI (cnt + 1))) := by
  unfold f_X3_nameOf L_X3_nameOf_2
  refine oF_P0 (σ := Int32) (fun i z => z = nI (first + i) ∧ ∀ j, first ≤ j → j < first + i → P j ≠ pr) (cnt - first) (fun r => (∃ j, first ≤ j ∧ j < cnt ∧ P j = pr ∧ r = some (nI (j + 2), pairs, nI cnt)) ∨ ((∀ j, first ≤ j → j < cnt → P j ≠ pr) ∧ r = some (nI (cnt + 2), upd pairs cnt (nI pr), nI (cnt + 1)))) _ ⟨rfl, fun j h1 h2 => absurd h2 (by omega)⟩ (by omega) ?_ ?_
  · rintro i z k hi ⟨rfl, g⟩ hk
    unfold b_X3_nameOf_2
    obtain ⟨q1, q2⟩ := hP (first + i) (by omega) (by omega)
    rw [if_neg (by rw [nI_le_iff (by omega) (by omega)]; omega), oA_n (first + i) _ rfl (by omega) (by decide), q1]
    by_cases e : P (first + i) = pr
    · rw [if_pos (by rw [e])]
      exact Or.inl ⟨first + i, by omega, by omega, e, by rw [i2, nI_add]⟩
    · rw [if_neg (by rw [nI_inj (by omega) (by omega)]; exact e), oL_s, nI_1]
      refine hk _ ⟨by rw [Nat.add_assoc], fun j h1 h2 => ?_⟩
      by_cases e2 : j = first + i
      · rw [e2]; exact e
      · exact g j h1 (by omega)
  · rintro z k ⟨rfl, g⟩
    unfold b_X3_nameOf_2
    rw [if_pos (by rw [nI_le_iff (by omega) (by omega)]; omega), oA_n cnt _ rfl hc (by decide), oL_s, oL_s, nI_1]
    refine Or.inr ⟨fun j h1 h2 => g j h1 (by omega), ?_⟩
    rw [show nI (cnt + 1) - 1 = nI cnt by rw [← nI_1, Int32.add_sub_cancel], i2, nI_add]
theorem or_pw : ∀ v, v < 8 → ∀ u, u < 2 ^ v → (nI u ||| nI (2 ^ v)) = nI (u + 2 ^ v) := by decide +kernel
/-- names at a level: equal just where the parts are alike -/
def NMI (S : Nat → Bool) (names : Nat → Int32) (v cnt : Nat) : Prop := ∃ nm : Nat → Nat, (∀ u, u < 2 ^ v → names u = nI (nm u) ∧ nm u < cnt + 2) ∧ ∀ u u', u < 2 ^ v → u' < 2 ^ v → (nm u = nm u' ↔ alk S v u u' = true)
theorem tellBack9 {S : Nat → Bool} {names pairs : Nat → Int32} {v first : Nat} (hv : v < 8) (hb : first + 2 ^ (v + 1) ≤ 256) (hN : NMI S names (v + 1) first) : ∃ names' pairs', f_X3_tellBack (nI first) names pairs (nI v) = some (names', pairs', nI (first + pcn S v (2 ^ v))) ∧ NMI S names' v (first + pcn S v (2 ^ v)) := by
  obtain ⟨e1, e2⟩ := pw_half hv
  obtain ⟨p1, p2, p3, p4, p5⟩ := pw8 v hv
  obtain ⟨nm, n1, n2⟩ := hN
  rw [e2] at hb n1 n2
  -- the pair of u
  have hdep : ∀ u, u < 2 ^ v → (hgn S v u = true ↔ nm u ≠ nm (u + 2 ^ v)) := fun u hu => by
    rw [hgn_iff S hv hu, ← n2 u (u + 2 ^ v) (by omega) (by omega)]
  have hpr : ∀ u u', u < 2 ^ v → u' < 2 ^ v → (nm u * 256 + nm (u + 2 ^ v) = nm u' * 256 + nm (u' + 2 ^ v) ↔ alk S v u u' = true) := fun u u' hu hu' => by
    rw [alk_split S hv, ← n2 u u' (by omega) (by omega), ← n2 (u + 2 ^ v) (u' + 2 ^ v) (by omega) (by omega)]
    have a1 := (n1 u (by omega)).2
    have a2 := (n1 u' (by omega)).2
    have a3 := (n1 (u + 2 ^ v) (by omega)).2
    have a4 := (n1 (u' + 2 ^ v) (by omega)).2
    omega
  unfold f_X3_tellBack
  rw [one_shl v (by omega), oL_s]
  unfold L_X3_tellBack_12
  refine oF_P0 (σ := Int32 × (Nat → Int32) × (Nat → Int32) × Int32) (fun u z => ∃ (nm' P : Nat → Nat), z.1 = nI (first + pcn S v u) ∧ z.2.2.2 = nI u ∧ (∀ x, u ≤ x → x < 2 * 2 ^ v → z.2.1 x = nI (nm x)) ∧ (∀ x, x < u → z.2.1 x = nI (nm' x)) ∧ (∀ j, first ≤ j → j < first + pcn S v u → z.2.2.1 j = nI (P j) ∧ ∃ x, x < u ∧ nm x ≠ nm (x + 2 ^ v) ∧ P j = nm x * 256 + nm (x + 2 ^ v)) ∧ (∀ x, x < u → nm x = nm (x + 2 ^ v) → nm' x = nm x) ∧ (∀ x, x < u → nm x ≠ nm (x + 2 ^ v) → ∃ j, first ≤ j ∧ j < first + pcn S v u ∧ nm' x = j + 2 ∧ P j = nm x * 256 + nm (x + 2 ^ v)) ∧ (∀ j j', first ≤ j → j < first + pcn S v u → first ≤ j' → j' < first + pcn S v u → P j = P j' → j = j')) (2 ^ v) (fun (r : Option ((Nat → Int32) × (Nat → Int32) × Int32)) => ∃ names' pairs', r = some (names', pairs', nI (first + pcn S v (2 ^ v))) ∧ NMI S names' v (first + pcn S v (2 ^ v))) _ ?_ (by omega) ?_ ?_
  · exact ⟨nm, nm, rfl, rfl, fun x _ hx => (n1 x hx).1, fun x hx => absurd hx (by omega), fun j h1 h2 => absurd h2 (by show ¬ j < first + 0; omega), fun x hx => absurd hx (by omega), fun x hx => absurd hx (by omega), fun j j' h1 h2 => absurd h2 (by show ¬ j < first + 0; omega)⟩
  · rintro u ⟨z1, z2, z3, z4⟩ k hu ⟨nm', P, g1, g2, g3, g4, g5, g6, g7, g8⟩ hk
    dsimp only at g1 g2 g3 g4 g5 g6 g7 g8 ⊢
    subst g1; subst g2
    have hcu : pcn S v u ≤ u := cN_le _ u
    have hps : pcn S v (u + 1) = pcn S v u + (if hgn S v u && frs S v u u then 1 else 0) := rfl
    unfold b_X3_tellBack_12 f_X3_tellBack_70
    rw [if_neg (by rw [nI_le_iff (by omega) (by omega)]; omega), or_pw v hv u hu, oA_n u _ rfl (by omega) (by decide), oA_n (u + 2 ^ v) _ rfl (by omega) (by decide), oA_n u _ rfl (by omega) (by decide), oA_n (u + 2 ^ v) _ rfl (by omega) (by decide), g3 u (by omega) (by omega), g3 (u + 2 ^ v) (by omega) (by omega)]
    have a1 := (n1 u (by omega)).2
    have a2 := (n1 (u + 2 ^ v) (by omega)).2
    by_cases hd : nm u = nm (u + 2 ^ v)
    · rw [if_pos (by rw [hd]), oL_s, nI_1]
      have hh : hgn S v u = false := by
        cases hx : hgn S v u
        · rfl
        · exact absurd hd ((hdep u hu).mp hx)
      rw [hh, Bool.false_and, if_neg (by decide)] at hps
      replace hps : pcn S v (u + 1) = pcn S v u := hps
      refine hk _ ⟨fun x => if x = u then nm u else nm' x, P, by rw [hps], rfl, fun x h1 h2 => g3 x (by omega) h2, fun x hx => ?_, ?_, fun x hx hxx => ?_, fun x hx hxx => ?_, ?_⟩
      · dsimp only
        by_cases e : x = u
        · subst e; rw [if_pos rfl]; exact g3 x (by omega) (by omega)
        · rw [if_neg e]; exact g4 x (by omega)
      · rw [hps]
        intro j h1 h2
        obtain ⟨b1, x, b2, b3⟩ := g5 j h1 h2
        exact ⟨b1, x, by omega, b3⟩
      · dsimp only
        by_cases e : x = u
        · subst e; rw [if_pos rfl]
        · rw [if_neg e]; exact g6 x (by omega) hxx
      · rw [hps]
        dsimp only
        by_cases e : x = u
        · subst e; exact absurd hd hxx
        · rw [if_neg e]; exact g7 x (by omega) hxx
      · rw [hps]; exact g8
    · rw [if_neg (by rw [nI_inj (by omega) (by omega)]; exact hd), show nI (nm u) * (256 : Int32) + nI (nm (u + 2 ^ v)) = nI (nm u * 256 + nm (u + 2 ^ v)) by rw [i256, nI_mul, nI_add]]
      have hh : hgn S v u = true := (hdep u hu).mpr hd
      rw [hh, Bool.true_and] at hps
      have hPb : ∀ j, first ≤ j → j < first + pcn S v u → z3 j = nI (P j) ∧ P j < 2 ^ 20 := fun j h1 h2 => by
        obtain ⟨b1, x, b2, b3, b4⟩ := g5 j h1 h2
        have c1 := (n1 x (by omega)).2
        have c2 := (n1 (x + 2 ^ v) (by omega)).2
        exact ⟨b1, by omega⟩
      rcases nameOf9 (first := first) (cnt := first + pcn S v u) (pr := nm u * 256 + nm (u + 2 ^ v)) (by omega) (by omega) hPb (by omega) with ⟨j, j1, j2, j3, j4⟩ | ⟨j1, j2⟩
      · -- found
        rw [j4, oB3_s, oA_n u _ rfl (by omega) (by decide), oL_s, oL_s, nI_1]
        have hfr : frs S v u u = false := by
          cases hx : frs S v u u
          · rfl
          · exfalso
            obtain ⟨b1, x, b2, b3, b4⟩ := g5 j j1 j2
            have h9 := (aN_iff _ u).mp hx x b2
            have h10 := (hpr u x hu (by omega)).mp (by rw [← b4, j3])
            rw [h10] at h9
            exact absurd h9 (by decide)
        rw [hfr, if_neg (by decide)] at hps
        replace hps : pcn S v (u + 1) = pcn S v u := hps
        refine hk _ ⟨fun x => if x = u then j + 2 else nm' x, P, by rw [hps], rfl, fun x h1 h2 => ?_, fun x hx => ?_, ?_, fun x hx hxx => ?_, fun x hx hxx => ?_, ?_⟩
        · dsimp only
          rw [upd_n _ _ (by omega)]; exact g3 x (by omega) h2
        · dsimp only
          by_cases e : x = u
          · subst e; rw [if_pos rfl, upd_s]
          · rw [if_neg e, upd_n _ _ e]; exact g4 x (by omega)
        · rw [hps]
          intro i h1 h2
          obtain ⟨b1, x, b2, b3⟩ := g5 i h1 h2
          exact ⟨b1, x, by omega, b3⟩
        · dsimp only
          by_cases e : x = u
          · subst e; exact absurd hxx hd
          · rw [if_neg e]; exact g6 x (by omega) hxx
        · rw [hps]
          dsimp only
          by_cases e : x = u
          · subst e; exact ⟨j, j1, j2, if_pos rfl, j3⟩
          · rw [if_neg e]; exact g7 x (by omega) hxx
        · rw [hps]; exact g8
      · rw [j2, oB3_s, oA_n u _ rfl (by omega) (by decide), oL_s, oL_s, nI_1]
        have hfr : frs S v u u = true := by
          refine (aN_iff _ u).mpr (fun x hx => ?_)
          cases hal : alk S v u x
          · rfl
          · exfalso
            have h10 := (hpr u x hu (by omega)).mpr hal
            have h11 : nm x ≠ nm (x + 2 ^ v) := by
              have c1 := (n1 x (by omega)).2
              have c2 := (n1 (x + 2 ^ v) (by omega)).2
              omega
            obtain ⟨j, q1, q2, q3, q4⟩ := g7 x hx h11
            exact j1 j q1 q2 (by rw [q4, h10])
        rw [hfr, if_pos rfl] at hps
        refine hk _ ⟨fun x => if x = u then first + pcn S v u + 2 else nm' x, fun j => if j = first + pcn S v u then nm u * 256 + nm (u + 2 ^ v) else P j, by rw [hps, Nat.add_assoc], rfl, fun x h1 h2 => ?_, fun x hx => ?_, ?_, fun x hx hxx => ?_, fun x hx hxx => ?_, ?_⟩
        · dsimp only
          rw [upd_n _ _ (by omega)]; exact g3 x (by omega) h2
        · dsimp only
          by_cases e : x = u
          · subst e; rw [if_pos rfl, upd_s]
          · rw [if_neg e, upd_n _ _ e]; exact g4 x (by omega)
        · rw [hps]
          intro i h1 h2
          dsimp only
          by_cases e : i = first + pcn S v u
          · subst e
            rw [if_pos rfl, upd_s]
            exact ⟨rfl, u, by omega, hd, rfl⟩
          · rw [if_neg e, upd_n _ _ e]
            obtain ⟨b1, x, b2, b3⟩ := g5 i h1 (by omega)
            exact ⟨b1, x, by omega, b3⟩
        · dsimp only
          by_cases e : x = u
          · subst e; exact absurd hxx hd
          · rw [if_neg e]; exact g6 x (by omega) hxx
        · rw [hps]
          dsimp only
          by_cases e : x = u
          · subst e; exact ⟨first + pcn S v x, by omega, by omega, if_pos rfl, if_pos rfl⟩
          · rw [if_neg e]
            obtain ⟨j, q1, q2, q3, q4⟩ := g7 x (by omega) hxx
            exact ⟨j, q1, by omega, q3, by rw [if_neg (by omega)]; exact q4⟩
        · rw [hps]
          intro i i' h1 h2 h3 h4 he
          dsimp only at he
          by_cases e : i = first + pcn S v u
          · rw [if_pos e] at he
            by_cases e' : i' = first + pcn S v u
            · omega
            · rw [if_neg e'] at he
              exact absurd he.symm (j1 i' h3 (by omega))
          · rw [if_neg e] at he
            by_cases e' : i' = first + pcn S v u
            · rw [if_pos e'] at he
              exact absurd he (j1 i h1 (by omega))
            · rw [if_neg e'] at he
              exact g8 i i' h1 (by omega) h3 (by omega) he
  · rintro ⟨z1, z2, z3, z4⟩ k ⟨nm', P, g1, g2, g3, g4, g5, g6, g7, g8⟩
    dsimp only at g1 g2 g3 g4 g5 g6 g7 g8 ⊢
    subst g1; subst g2
    unfold b_X3_tellBack_12
    rw [if_pos (by rw [nI_le_iff (by omega) (by omega)]; omega)]
    refine ⟨z2, z3, rfl, nm', fun u hu => ⟨g4 u hu, ?_⟩, fun u u' hu hu' => ?_⟩
    · by_cases hd : nm u = nm (u + 2 ^ v)
      · rw [g6 u hu hd]; have := (n1 u (by omega)).2; omega
      · obtain ⟨j, q1, q2, q3, q4⟩ := g7 u hu hd
        omega
    · rw [← hpr u u' hu hu']
      have c1 := (n1 u (by omega)).2
      have c2 := (n1 (u + 2 ^ v) (by omega)).2
      have c3 := (n1 u' (by omega)).2
      have c4 := (n1 (u' + 2 ^ v) (by omega)).2
      by_cases hd : nm u = nm (u + 2 ^ v)
      · have r1 := g6 u hu hd
        by_cases hd' : nm u' = nm (u' + 2 ^ v)
        · have r2 := g6 u' hu' hd'
          omega
        · obtain ⟨j, q1, q2, q3, q4⟩ := g7 u' hu' hd'
          omega
      · obtain ⟨j, q1, q2, q3, q4⟩ := g7 u hu hd
        by_cases hd' : nm u' = nm (u' + 2 ^ v)
        · have r2 := g6 u' hu' hd'
          omega
        · obtain ⟨j', q1', q2', q3', q4'⟩ := g7 u' hu' hd'
          constructor
          · intro h
            rw [← q4, ← q4', show j = j' by omega]
          · intro h
            rw [q3, q3', g8 j j' q1 q2 q1' q2' (by rw [q4, q4', h])]
