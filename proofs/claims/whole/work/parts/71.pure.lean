/-! Long.bitCount -/
theorem and_split (k : Nat) {d m : Nat} (hd : d < 2 ^ k) (hm : m < 2 ^ k) (r s : Nat) : (d + 2 ^ k * r) &&& (m + 2 ^ k * s) = (d &&& m) + 2 ^ k * (r &&& s) := by
  have hdm : (d &&& m) < 2 ^ k := Nat.lt_of_le_of_lt Nat.and_le_left hd
  apply Nat.eq_of_testBit_eq
  intro i
  rw [Nat.testBit_and, Nat.add_comm d, Nat.add_comm m, Nat.add_comm (d &&& m), Nat.testBit_two_pow_mul_add _ hd, Nat.testBit_two_pow_mul_add _ hm, Nat.testBit_two_pow_mul_add _ hdm]
  split
  · rw [Nat.testBit_and]
  · rw [Nat.testBit_and]
theorem and8 {d m : Nat} (hd : d < 256) (hm : m < 256) (r s : Nat) : (d + 256 * r) &&& (m + 256 * s) = (d &&& m) + 256 * (r &&& s) := and_split 8 hd hm r s
/-- eight bytes -/
def by8 (a b c d e f g h : Nat) : Nat := a + 256 * (b + 256 * (c + 256 * (d + 256 * (e + 256 * (f + 256 * (g + 256 * h))))))
theorem by8_and {a b c d e f g h m : Nat} (ha : a < 256) (hb : b < 256) (hc : c < 256) (hd : d < 256) (he : e < 256) (hf : f < 256) (hg : g < 256) (hh : h < 256) (hm : m < 256) : by8 a b c d e f g h &&& by8 m m m m m m m m = by8 (a &&& m) (b &&& m) (c &&& m) (d &&& m) (e &&& m) (f &&& m) (g &&& m) (h &&& m) := by
  unfold by8
  rw [and8 ha hm, and8 hb hm, and8 hc hm, and8 hd hm, and8 he hm, and8 hf hm, and8 hg hm]
theorem pc_byte : ∀ B, B < 256 → (B &&& 170) % 2 = 0 ∧ (B &&& 170) / 2 ≤ B ∧ (((B - (B &&& 170) / 2) &&& 204) % 4 = 0) ∧ ((B - (B &&& 170) / 2) &&& 51) + ((B - (B &&& 170) / 2) &&& 204) / 4 < 256 ∧ (((B - (B &&& 170) / 2) &&& 51) + ((B - (B &&& 170) / 2) &&& 204) / 4) % 16 ≤ 4 ∧ (((B - (B &&& 170) / 2) &&& 51) + ((B - (B &&& 170) / 2) &&& 204) / 4) / 16 ≤ 4 ∧ (((B - (B &&& 170) / 2) &&& 51) + ((B - (B &&& 170) / 2) &&& 204) / 4) % 16 + (((B - (B &&& 170) / 2) &&& 51) + ((B - (B &&& 170) / 2) &&& 204) / 4) / 16 = cN (fun i => B.testBit i) 8 := by decide +kernel
theorem sh_mask (x m : Nat) (k : Nat) : (x >>> k) &&& m = (x &&& (m <<< k)) >>> k := by
  apply Nat.eq_of_testBit_eq
  intro i
  rw [Nat.testBit_and, Nat.testBit_shiftRight, Nat.testBit_shiftRight, Nat.testBit_and, Nat.testBit_shiftLeft]
  simp
theorem by8_ex {x : Nat} (hx : x < 2 ^ 64) : ∃ a b c d e f g h, a < 256 ∧ b < 256 ∧ c < 256 ∧ d < 256 ∧ e < 256 ∧ f < 256 ∧ g < 256 ∧ h < 256 ∧ x = by8 a b c d e f g h :=
  ⟨x % 256, x / 256 % 256, x / 256 / 256 % 256, x / 256 / 256 / 256 % 256, x / 256 / 256 / 256 / 256 % 256, x / 256 / 256 / 256 / 256 / 256 % 256, x / 256 / 256 / 256 / 256 / 256 / 256 % 256, x / 256 / 256 / 256 / 256 / 256 / 256 / 256 % 256, by omega, by omega, by omega, by omega, by omega, by omega, by omega, by omega, by unfold by8; omega⟩
/-- the steps of the count, in numbers -/
def pc1 (x : Nat) : Nat := x - ((x >>> 1) &&& 6148914691236517205)
def pc2 (x : Nat) : Nat := (x &&& 3689348814741910323) + ((x >>> 2) &&& 3689348814741910323)
def pc3 (x : Nat) : Nat := (x + (x >>> 4)) &&& 1085102592571150095
theorem cN_by {a r : Nat} (ha : a < 256) (k : Nat) : cN (fun i => (a + 256 * r).testBit i) (8 + k) = cN (fun i => a.testBit i) 8 + cN (fun i => r.testBit i) k := by
  rw [cN_add]
  have h : ∀ i, (a + 256 * r).testBit i = if i < 8 then a.testBit i else r.testBit (i - 8) := fun i => by
    rw [Nat.add_comm]
    exact Nat.testBit_two_pow_mul_add (i := 8) r ha i
  rw [cN_congr (Q := fun i => a.testBit i) (fun i hi => by rw [h i, if_pos hi]), cN_congr (k := k) (Q := fun i => r.testBit i) (fun i hi => by rw [h (8 + i), if_neg (by omega)]; congr 1; omega)]
theorem cN_by8 {a b c d e f g h : Nat} (ha : a < 256) (hb : b < 256) (hc : c < 256) (hd : d < 256) (he : e < 256) (hf : f < 256) (hg : g < 256) : cN (fun i => (by8 a b c d e f g h).testBit i) 64 = cN (fun i => a.testBit i) 8 + (cN (fun i => b.testBit i) 8 + (cN (fun i => c.testBit i) 8 + (cN (fun i => d.testBit i) 8 + (cN (fun i => e.testBit i) 8 + (cN (fun i => f.testBit i) 8 + (cN (fun i => g.testBit i) 8 + cN (fun i => h.testBit i) 8)))))) := by
  unfold by8
  rw [show 64 = 8 + (8 + (8 + (8 + (8 + (8 + (8 + 8)))))) from rfl, cN_by ha, cN_by hb, cN_by hc, cN_by hd, cN_by he, cN_by hf, cN_by hg]
theorem by8_mul2 (a b c d e f g h : Nat) : by8 (2 * a) (2 * b) (2 * c) (2 * d) (2 * e) (2 * f) (2 * g) (2 * h) = 2 * by8 a b c d e f g h := by unfold by8; omega
theorem by8_mul4 (a b c d e f g h : Nat) : by8 (4 * a) (4 * b) (4 * c) (4 * d) (4 * e) (4 * f) (4 * g) (4 * h) = 4 * by8 a b c d e f g h := by unfold by8; omega
theorem by8_add (a b c d e f g h a' b' c' d' e' f' g' h' : Nat) : by8 a b c d e f g h + by8 a' b' c' d' e' f' g' h' = by8 (a + a') (b + b') (c + c') (d + d') (e + e') (f + f') (g + g') (h + h') := by unfold by8; omega
theorem by8_lt {a b c d e f g h : Nat} (ha : a < 256) (hb : b < 256) (hc : c < 256) (hd : d < 256) (he : e < 256) (hf : f < 256) (hg : g < 256) (hh : h < 256) : by8 a b c d e f g h < 2 ^ 64 := by unfold by8; omega
theorem by8_16 {a : Nat} (ha : a < 16) (a' b c d e f g h b' c' d' e' f' g' h' : Nat) : by8 (a + 16 * a') (b + 16 * b') (c + 16 * c') (d + 16 * d') (e + 16 * e') (f + 16 * f') (g + 16 * g') (h + 16 * h') / 16 = by8 (a' + 16 * b) (b' + 16 * c) (c' + 16 * d) (d' + 16 * e) (e' + 16 * f) (f' + 16 * g) (g' + 16 * h) h' := by
  have : by8 (a + 16 * a') (b + 16 * b') (c + 16 * c') (d + 16 * d') (e + 16 * e') (f + 16 * f') (g + 16 * g') (h + 16 * h') = a + 16 * by8 (a' + 16 * b) (b' + 16 * c) (c' + 16 * d) (d' + 16 * e) (e' + 16 * f) (f' + 16 * g) (g' + 16 * h) h' := by unfold by8; omega
  rw [this]
  omega
theorem p_half {x : Nat} (h : x % 2 = 0) : x = 2 * (x / 2) := by omega
theorem p_quart {x : Nat} (h : x % 4 = 0) : x = 4 * (x / 4) := by omega
theorem l15 (y z : Nat) (hy : y < 16) : (y + 16 * z) &&& 15 = y := by
  rw [show (15 : Nat) = 2 ^ 4 - 1 from rfl, Nat.and_two_pow_sub_one_eq_mod]
  omega
theorem pcs1 {a b c d e f g h : Nat} (ha : a < 256) (hb : b < 256) (hc : c < 256) (hd : d < 256) (he : e < 256) (hf : f < 256) (hg : g < 256) (hh : h < 256) : (by8 a b c d e f g h >>> 1) &&& 6148914691236517205 = by8 ((a &&& 170) / 2) ((b &&& 170) / 2) ((c &&& 170) / 2) ((d &&& 170) / 2) ((e &&& 170) / 2) ((f &&& 170) / 2) ((g &&& 170) / 2) ((h &&& 170) / 2) := by
  rw [sh_mask, show 6148914691236517205 <<< 1 = by8 170 170 170 170 170 170 170 170 from rfl, by8_and ha hb hc hd he hf hg hh (by decide), Nat.shiftRight_eq_div_pow]
  have := by8_mul2 ((a &&& 170) / 2) ((b &&& 170) / 2) ((c &&& 170) / 2) ((d &&& 170) / 2) ((e &&& 170) / 2) ((f &&& 170) / 2) ((g &&& 170) / 2) ((h &&& 170) / 2)
  rw [← p_half (pc_byte a ha).1, ← p_half (pc_byte b hb).1, ← p_half (pc_byte c hc).1, ← p_half (pc_byte d hd).1, ← p_half (pc_byte e he).1, ← p_half (pc_byte f hf).1, ← p_half (pc_byte g hg).1, ← p_half (pc_byte h hh).1] at this
  rw [this, Nat.pow_one, Nat.mul_div_cancel_left _ (by decide)]
theorem pcs2 {a b c d e f g h : Nat} (ha : a < 256) (hb : b < 256) (hc : c < 256) (hd : d < 256) (he : e < 256) (hf : f < 256) (hg : g < 256) (hh : h < 256) : by8 a b c d e f g h = by8 (a - (a &&& 170) / 2) (b - (b &&& 170) / 2) (c - (c &&& 170) / 2) (d - (d &&& 170) / 2) (e - (e &&& 170) / 2) (f - (f &&& 170) / 2) (g - (g &&& 170) / 2) (h - (h &&& 170) / 2) + by8 ((a &&& 170) / 2) ((b &&& 170) / 2) ((c &&& 170) / 2) ((d &&& 170) / 2) ((e &&& 170) / 2) ((f &&& 170) / 2) ((g &&& 170) / 2) ((h &&& 170) / 2) := by
  rw [by8_add, Nat.sub_add_cancel (pc_byte a ha).2.1, Nat.sub_add_cancel (pc_byte b hb).2.1, Nat.sub_add_cancel (pc_byte c hc).2.1, Nat.sub_add_cancel (pc_byte d hd).2.1, Nat.sub_add_cancel (pc_byte e he).2.1, Nat.sub_add_cancel (pc_byte f hf).2.1, Nat.sub_add_cancel (pc_byte g hg).2.1, Nat.sub_add_cancel (pc_byte h hh).2.1]
theorem pcs3 {a b c d e f g h : Nat} (ha : a < 256) (hb : b < 256) (hc : c < 256) (hd : d < 256) (he : e < 256) (hf : f < 256) (hg : g < 256) (hh : h < 256) (qa : (a &&& 204) % 4 = 0) (qb : (b &&& 204) % 4 = 0) (qc : (c &&& 204) % 4 = 0) (qd : (d &&& 204) % 4 = 0) (qe : (e &&& 204) % 4 = 0) (qf : (f &&& 204) % 4 = 0) (qg : (g &&& 204) % 4 = 0) (qh : (h &&& 204) % 4 = 0) : pc2 (by8 a b c d e f g h) = by8 ((a &&& 51) + (a &&& 204) / 4) ((b &&& 51) + (b &&& 204) / 4) ((c &&& 51) + (c &&& 204) / 4) ((d &&& 51) + (d &&& 204) / 4) ((e &&& 51) + (e &&& 204) / 4) ((f &&& 51) + (f &&& 204) / 4) ((g &&& 51) + (g &&& 204) / 4) ((h &&& 51) + (h &&& 204) / 4) := by
  unfold pc2
  rw [sh_mask, show 3689348814741910323 <<< 2 = by8 204 204 204 204 204 204 204 204 from rfl, show 3689348814741910323 = by8 51 51 51 51 51 51 51 51 from rfl, by8_and ha hb hc hd he hf hg hh (by decide), by8_and ha hb hc hd he hf hg hh (by decide), Nat.shiftRight_eq_div_pow]
  have := by8_mul4 ((a &&& 204) / 4) ((b &&& 204) / 4) ((c &&& 204) / 4) ((d &&& 204) / 4) ((e &&& 204) / 4) ((f &&& 204) / 4) ((g &&& 204) / 4) ((h &&& 204) / 4)
  rw [← p_quart qa, ← p_quart qb, ← p_quart qc, ← p_quart qd, ← p_quart qe, ← p_quart qf, ← p_quart qg, ← p_quart qh] at this
  rw [this, show 2 ^ 2 = 4 from rfl, Nat.mul_div_cancel_left _ (by decide), by8_add]
theorem pcs4 {a b c d e f g h : Nat} (pa : a % 16 ≤ 4) (qa : a / 16 ≤ 4) (pb : b % 16 ≤ 4) (qb : b / 16 ≤ 4) (pc : c % 16 ≤ 4) (qc : c / 16 ≤ 4) (pd : d % 16 ≤ 4) (qd : d / 16 ≤ 4) (pe : e % 16 ≤ 4) (qe : e / 16 ≤ 4) (pf : f % 16 ≤ 4) (qf : f / 16 ≤ 4) (pg : g % 16 ≤ 4) (qg : g / 16 ≤ 4) (ph : h % 16 ≤ 4) (qh : h / 16 ≤ 4) : by8 a b c d e f g h + (by8 a b c d e f g h >>> 4) < 2 ^ 64 ∧ pc3 (by8 a b c d e f g h) = by8 (a % 16 + a / 16) (b % 16 + b / 16) (c % 16 + c / 16) (d % 16 + d / 16) (e % 16 + e / 16) (f % 16 + f / 16) (g % 16 + g / 16) (h % 16 + h / 16) := by
  have e1 := by8_16 (a := a % 16) (by omega) (a / 16) (b % 16) (c % 16) (d % 16) (e % 16) (f % 16) (g % 16) (h % 16) (b / 16) (c / 16) (d / 16) (e / 16) (f / 16) (g / 16) (h / 16)
  rw [Nat.mod_add_div a 16, Nat.mod_add_div b 16, Nat.mod_add_div c 16, Nat.mod_add_div d 16, Nat.mod_add_div e 16, Nat.mod_add_div f 16, Nat.mod_add_div g 16, Nat.mod_add_div h 16] at e1
  have u : by8 a b c d e f g h + (by8 a b c d e f g h >>> 4) = by8 (a % 16 + a / 16 + 16 * (a / 16 + b % 16)) (b % 16 + b / 16 + 16 * (b / 16 + c % 16)) (c % 16 + c / 16 + 16 * (c / 16 + d % 16)) (d % 16 + d / 16 + 16 * (d / 16 + e % 16)) (e % 16 + e / 16 + 16 * (e / 16 + f % 16)) (f % 16 + f / 16 + 16 * (f / 16 + g % 16)) (g % 16 + g / 16 + 16 * (g / 16 + h % 16)) (h % 16 + h / 16 + 16 * (h / 16)) := by
    rw [Nat.shiftRight_eq_div_pow, show 2 ^ 4 = 16 from rfl, e1, by8_add]
    rw [show a + (a / 16 + 16 * (b % 16)) = a % 16 + a / 16 + 16 * (a / 16 + b % 16) by omega]
    rw [show b + (b / 16 + 16 * (c % 16)) = b % 16 + b / 16 + 16 * (b / 16 + c % 16) by omega]
    rw [show c + (c / 16 + 16 * (d % 16)) = c % 16 + c / 16 + 16 * (c / 16 + d % 16) by omega]
    rw [show d + (d / 16 + 16 * (e % 16)) = d % 16 + d / 16 + 16 * (d / 16 + e % 16) by omega]
    rw [show e + (e / 16 + 16 * (f % 16)) = e % 16 + e / 16 + 16 * (e / 16 + f % 16) by omega]
    rw [show f + (f / 16 + 16 * (g % 16)) = f % 16 + f / 16 + 16 * (f / 16 + g % 16) by omega]
    rw [show g + (g / 16 + 16 * (h % 16)) = g % 16 + g / 16 + 16 * (g / 16 + h % 16) by omega]
    rw [show h + (h / 16) = h % 16 + h / 16 + 16 * (h / 16) by omega]
  have bd : a % 16 + a / 16 + 16 * (a / 16 + b % 16) < 256 ∧ b % 16 + b / 16 + 16 * (b / 16 + c % 16) < 256 ∧ c % 16 + c / 16 + 16 * (c / 16 + d % 16) < 256 ∧ d % 16 + d / 16 + 16 * (d / 16 + e % 16) < 256 ∧ e % 16 + e / 16 + 16 * (e / 16 + f % 16) < 256 ∧ f % 16 + f / 16 + 16 * (f / 16 + g % 16) < 256 ∧ g % 16 + g / 16 + 16 * (g / 16 + h % 16) < 256 ∧ h % 16 + h / 16 + 16 * (h / 16) < 256 := ⟨by omega, by omega, by omega, by omega, by omega, by omega, by omega, by omega⟩
  obtain ⟨ba, bb, bc, bd, be, bf, bg, bh⟩ := bd
  unfold pc3
  rw [u]
  refine ⟨by8_lt ba bb bc bd be bf bg bh, ?_⟩
  rw [show 1085102592571150095 = by8 15 15 15 15 15 15 15 15 from rfl, by8_and ba bb bc bd be bf bg bh (by decide), l15 (a % 16 + a / 16) _ (by omega), l15 (b % 16 + b / 16) _ (by omega), l15 (c % 16 + c / 16) _ (by omega), l15 (d % 16 + d / 16) _ (by omega), l15 (e % 16 + e / 16) _ (by omega), l15 (f % 16 + f / 16) _ (by omega), l15 (g % 16 + g / 16) _ (by omega), l15 (h % 16 + h / 16) _ (by omega)]
theorem pc_nat {x : Nat} (hx : x < 2 ^ 64) : ((x >>> 1) &&& 6148914691236517205) ≤ x ∧ pc2 (pc1 x) < 2 ^ 64 ∧ pc2 (pc1 x) + (pc2 (pc1 x) >>> 4) < 2 ^ 64 ∧ ∃ a b c d e f g h, a ≤ 8 ∧ b ≤ 8 ∧ c ≤ 8 ∧ d ≤ 8 ∧ e ≤ 8 ∧ f ≤ 8 ∧ g ≤ 8 ∧ h ≤ 8 ∧ pc3 (pc2 (pc1 x)) = by8 a b c d e f g h ∧ cN (fun i => x.testBit i) 64 = a + (b + (c + (d + (e + (f + (g + h)))))) := by
  obtain ⟨a, b, c, d, e, f, g, h, ha, hb, hc, hd, he, hf, hg, hh, rfl⟩ := by8_ex hx
  rw [cN_by8 ha hb hc hd he hf hg]
  have s2 : pc1 (by8 a b c d e f g h) = by8 (a - (a &&& 170) / 2) (b - (b &&& 170) / 2) (c - (c &&& 170) / 2) (d - (d &&& 170) / 2) (e - (e &&& 170) / 2) (f - (f &&& 170) / 2) (g - (g &&& 170) / 2) (h - (h &&& 170) / 2) := by
    unfold pc1
    rw [pcs1 ha hb hc hd he hf hg hh]
    exact (Nat.sub_eq_of_eq_add (pcs2 ha hb hc hd he hf hg hh))
  have s0 : ((by8 a b c d e f g h >>> 1) &&& 6148914691236517205) ≤ by8 a b c d e f g h := by
    rw [pcs1 ha hb hc hd he hf hg hh]
    exact (pcs2 ha hb hc hd he hf hg hh) ▸ Nat.le_add_left _ _
  have s3 := pcs3 (Nat.lt_of_le_of_lt (Nat.sub_le a ((a &&& 170) / 2)) ha) (Nat.lt_of_le_of_lt (Nat.sub_le b ((b &&& 170) / 2)) hb) (Nat.lt_of_le_of_lt (Nat.sub_le c ((c &&& 170) / 2)) hc) (Nat.lt_of_le_of_lt (Nat.sub_le d ((d &&& 170) / 2)) hd) (Nat.lt_of_le_of_lt (Nat.sub_le e ((e &&& 170) / 2)) he) (Nat.lt_of_le_of_lt (Nat.sub_le f ((f &&& 170) / 2)) hf) (Nat.lt_of_le_of_lt (Nat.sub_le g ((g &&& 170) / 2)) hg) (Nat.lt_of_le_of_lt (Nat.sub_le h ((h &&& 170) / 2)) hh) (pc_byte a ha).2.2.1 (pc_byte b hb).2.2.1 (pc_byte c hc).2.2.1 (pc_byte d hd).2.2.1 (pc_byte e he).2.2.1 (pc_byte f hf).2.2.1 (pc_byte g hg).2.2.1 (pc_byte h hh).2.2.1
  have s4 := pcs4 (pc_byte a ha).2.2.2.2.1 (pc_byte a ha).2.2.2.2.2.1 (pc_byte b hb).2.2.2.2.1 (pc_byte b hb).2.2.2.2.2.1 (pc_byte c hc).2.2.2.2.1 (pc_byte c hc).2.2.2.2.2.1 (pc_byte d hd).2.2.2.2.1 (pc_byte d hd).2.2.2.2.2.1 (pc_byte e he).2.2.2.2.1 (pc_byte e he).2.2.2.2.2.1 (pc_byte f hf).2.2.2.2.1 (pc_byte f hf).2.2.2.2.2.1 (pc_byte g hg).2.2.2.2.1 (pc_byte g hg).2.2.2.2.2.1 (pc_byte h hh).2.2.2.2.1 (pc_byte h hh).2.2.2.2.2.1
  rw [s2, s3]
  refine ⟨s0, by8_lt (pc_byte a ha).2.2.2.1 (pc_byte b hb).2.2.2.1 (pc_byte c hc).2.2.2.1 (pc_byte d hd).2.2.2.1 (pc_byte e he).2.2.2.1 (pc_byte f hf).2.2.2.1 (pc_byte g hg).2.2.2.1 (pc_byte h hh).2.2.2.1, s4.1, _, _, _, _, _, _, _, _, ?_, ?_, ?_, ?_, ?_, ?_, ?_, ?_, s4.2, by rw [(pc_byte a ha).2.2.2.2.2.2, (pc_byte b hb).2.2.2.2.2.2, (pc_byte c hc).2.2.2.2.2.2, (pc_byte d hd).2.2.2.2.2.2, (pc_byte e he).2.2.2.2.2.2, (pc_byte f hf).2.2.2.2.2.2, (pc_byte g hg).2.2.2.2.2.2, (pc_byte h hh).2.2.2.2.2.2]⟩
  · have := (pc_byte a ha).2.2.2.2.1; have := (pc_byte a ha).2.2.2.2.2.1; exact Nat.add_le_add (pc_byte a ha).2.2.2.2.1 (pc_byte a ha).2.2.2.2.2.1
  · have := (pc_byte b hb).2.2.2.2.1; have := (pc_byte b hb).2.2.2.2.2.1; exact Nat.add_le_add (pc_byte b hb).2.2.2.2.1 (pc_byte b hb).2.2.2.2.2.1
  · have := (pc_byte c hc).2.2.2.2.1; have := (pc_byte c hc).2.2.2.2.2.1; exact Nat.add_le_add (pc_byte c hc).2.2.2.2.1 (pc_byte c hc).2.2.2.2.2.1
  · have := (pc_byte d hd).2.2.2.2.1; have := (pc_byte d hd).2.2.2.2.2.1; exact Nat.add_le_add (pc_byte d hd).2.2.2.2.1 (pc_byte d hd).2.2.2.2.2.1
  · have := (pc_byte e he).2.2.2.2.1; have := (pc_byte e he).2.2.2.2.2.1; exact Nat.add_le_add (pc_byte e he).2.2.2.2.1 (pc_byte e he).2.2.2.2.2.1
  · have := (pc_byte f hf).2.2.2.2.1; have := (pc_byte f hf).2.2.2.2.2.1; exact Nat.add_le_add (pc_byte f hf).2.2.2.2.1 (pc_byte f hf).2.2.2.2.2.1
  · have := (pc_byte g hg).2.2.2.2.1; have := (pc_byte g hg).2.2.2.2.2.1; exact Nat.add_le_add (pc_byte g hg).2.2.2.2.1 (pc_byte g hg).2.2.2.2.2.1
  · have := (pc_byte h hh).2.2.2.2.1; have := (pc_byte h hh).2.2.2.2.2.1; exact Nat.add_le_add (pc_byte h hh).2.2.2.2.1 (pc_byte h hh).2.2.2.2.2.1
