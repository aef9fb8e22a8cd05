/-! Long.bitCount, as it stands -/
def tn (x : Int64) : Nat := x.toBitVec.toNat
theorem tn_lt (x : Int64) : tn x < 2 ^ 64 := x.toBitVec.isLt
theorem tn_add {x y : Int64} (h : tn x + tn y < 2 ^ 64) : tn (x + y) = tn x + tn y := by
  unfold tn at *
  rw [Int64.toBitVec_add, BitVec.toNat_add, Nat.mod_eq_of_lt h]
theorem tn_sub {x y : Int64} (h : tn y ≤ tn x) : tn (x - y) = tn x - tn y := by
  unfold tn at *
  rw [Int64.toBitVec_sub, BitVec.toNat_sub]
  have := x.toBitVec.isLt
  have := y.toBitVec.isLt
  omega
theorem tn_and (x y : Int64) : tn (x &&& y) = tn x &&& tn y := by
  unfold tn
  rw [Int64.toBitVec_and, BitVec.toNat_and]
theorem tn_ushr (x : Int64) (k : Int32) (n : Nat) (h : ((k.toInt64.toUInt64 &&& Int64.toUInt64 63).toBitVec % 64).toNat = n) : tn ((x.toUInt64 >>> (k.toInt64.toUInt64 &&& Int64.toUInt64 63)).toInt64) = tn x >>> n := by
  show (x.toUInt64 >>> (k.toInt64.toUInt64 &&& Int64.toUInt64 63)).toBitVec.toNat = x.toUInt64.toBitVec.toNat >>> n
  rw [UInt64.toBitVec_shiftRight]
  show (x.toUInt64.toBitVec >>> ((k.toInt64.toUInt64 &&& Int64.toUInt64 63).toBitVec % 64).toNat).toNat = _
  rw [h, BitVec.toNat_ushiftRight]
theorem by8_s1 {a : Nat} (ha : a < 256) (b c d e f g h : Nat) : by8 a b c d e f g h / 256 = by8 b c d e f g h 0 := by unfold by8; omega
theorem by8_low {a : Nat} (ha : a < 128) (b c d e f g h : Nat) : by8 a b c d e f g h % 128 = a := by unfold by8; omega
theorem by8_s2 {a b : Nat} (ha : a < 256) (hb : b < 256) (c d e f g h : Nat) : by8 a b c d e f g h / 65536 = by8 c d e f g h 0 0 := by
  rw [show 65536 = 256 * 256 from rfl, ← Nat.div_div_eq_div_mul, by8_s1 ha, by8_s1 hb]
theorem by8_s4 {a b c d : Nat} (ha : a < 256) (hb : b < 256) (hc : c < 256) (hd : d < 256) (e f g h : Nat) : by8 a b c d e f g h / 4294967296 = by8 e f g h 0 0 0 0 := by
  rw [show 4294967296 = 65536 * 65536 from rfl, ← Nat.div_div_eq_div_mul, by8_s2 ha hb, by8_s2 hc hd]
theorem t127 (x : Int64) {m : Nat} (h : tn x % 128 = m) : (x.toInt32 &&& 127) = nI m := by
  apply Int32.toBitVec_inj.mp
  apply BitVec.eq_of_toNat_eq
  rw [Int32.toBitVec_and, BitVec.toNat_and]
  show (x.toBitVec.signExtend 32).toNat &&& 127 = (BitVec.ofNat 32 m).toNat
  rw [BitVec.signExtend_eq_setWidth_of_le _ (by decide), BitVec.toNat_setWidth, BitVec.toNat_ofNat, show (127 : Nat) = 2 ^ 7 - 1 from rfl, Nat.and_two_pow_sub_one_eq_mod]
  unfold tn at h
  omega
theorem bitCount13 (x : Int64) : f_J13_bitCount_95d88 x = some (nI (cN (bl x) 64)) := by
  unfold f_J13_bitCount_95d88
  simp only [oL_s]
  obtain ⟨p1, p2, p3, a, b, c, d, e, f, g, h, ha, hb, hc, hd, he, hf, hg, hh, p4, p5⟩ := pc_nat (tn_lt x)
  have hb0 : cN (bl x) 64 = cN (fun i => (tn x).testBit i) 64 := rfl
  rw [hb0, p5]
  have y1 : tn (x - (((x.toUInt64 >>> ((1 : Int32).toInt64.toUInt64 &&& Int64.toUInt64 63)).toInt64) &&& (6148914691236517205 : Int64))) = pc1 (tn x) := by
    have e1 : tn (((x.toUInt64 >>> ((1 : Int32).toInt64.toUInt64 &&& Int64.toUInt64 63)).toInt64) &&& (6148914691236517205 : Int64)) = (tn x >>> 1) &&& 6148914691236517205 := by
      rw [tn_and, tn_ushr x 1 1 (by decide +kernel)]; rfl
    rw [tn_sub (by rw [e1]; exact p1), e1]; rfl
  generalize x - (((x.toUInt64 >>> ((1 : Int32).toInt64.toUInt64 &&& Int64.toUInt64 63)).toInt64) &&& (6148914691236517205 : Int64)) = x1 at y1 ⊢
  rw [← y1] at p2 p3 p4
  have y2 : tn ((x1 &&& (3689348814741910323 : Int64)) + (((x1.toUInt64 >>> ((2 : Int32).toInt64.toUInt64 &&& Int64.toUInt64 63)).toInt64) &&& (3689348814741910323 : Int64))) = pc2 (tn x1) := by
    have e1 : tn (((x1.toUInt64 >>> ((2 : Int32).toInt64.toUInt64 &&& Int64.toUInt64 63)).toInt64) &&& (3689348814741910323 : Int64)) = (tn x1 >>> 2) &&& 3689348814741910323 := by
      rw [tn_and, tn_ushr x1 2 2 (by decide +kernel)]; rfl
    have e2 : tn (x1 &&& (3689348814741910323 : Int64)) = tn x1 &&& 3689348814741910323 := by rw [tn_and]; rfl
    rw [tn_add (by rw [e1, e2]; exact p2), e1, e2]; rfl
  generalize (x1 &&& (3689348814741910323 : Int64)) + (((x1.toUInt64 >>> ((2 : Int32).toInt64.toUInt64 &&& Int64.toUInt64 63)).toInt64) &&& (3689348814741910323 : Int64)) = x2 at y2 ⊢
  rw [← y2] at p2 p3 p4
  have y3 : tn ((x2 + ((x2.toUInt64 >>> ((4 : Int32).toInt64.toUInt64 &&& Int64.toUInt64 63)).toInt64)) &&& (1085102592571150095 : Int64)) = by8 a b c d e f g h := by
    have e1 : tn ((x2.toUInt64 >>> ((4 : Int32).toInt64.toUInt64 &&& Int64.toUInt64 63)).toInt64) = tn x2 >>> 4 := tn_ushr x2 4 4 (by decide +kernel)
    rw [tn_and, tn_add (by rw [e1]; exact p3), e1, ← p4]; rfl
  generalize (x2 + ((x2.toUInt64 >>> ((4 : Int32).toInt64.toUInt64 &&& Int64.toUInt64 63)).toInt64)) &&& (1085102592571150095 : Int64) = x3 at y3 ⊢
  have y4 : tn (x3 + ((x3.toUInt64 >>> ((8 : Int32).toInt64.toUInt64 &&& Int64.toUInt64 63)).toInt64)) = by8 (a + b) (b + c) (c + d) (d + e) (e + f) (f + g) (g + h) h := by
    have e1 : tn ((x3.toUInt64 >>> ((8 : Int32).toInt64.toUInt64 &&& Int64.toUInt64 63)).toInt64) = by8 b c d e f g h 0 := by
      rw [tn_ushr x3 8 8 (by decide +kernel), y3, Nat.shiftRight_eq_div_pow]; exact by8_s1 (by omega) ..
    have e2 : by8 a b c d e f g h + by8 b c d e f g h 0 = by8 (a + b) (b + c) (c + d) (d + e) (e + f) (f + g) (g + h) h := by rw [by8_add]; rfl
    rw [tn_add (by rw [e1, y3, e2]; exact by8_lt (by omega) (by omega) (by omega) (by omega) (by omega) (by omega) (by omega) (by omega)), e1, y3, e2]
  generalize x3 + ((x3.toUInt64 >>> ((8 : Int32).toInt64.toUInt64 &&& Int64.toUInt64 63)).toInt64) = x4 at y4 ⊢
  have y5 : tn (x4 + ((x4.toUInt64 >>> ((16 : Int32).toInt64.toUInt64 &&& Int64.toUInt64 63)).toInt64)) = by8 (a + b + (c + d)) (b + c + (d + e)) (c + d + (e + f)) (d + e + (f + g)) (e + f + (g + h)) (f + g + h) (g + h) h := by
    have e1 : tn ((x4.toUInt64 >>> ((16 : Int32).toInt64.toUInt64 &&& Int64.toUInt64 63)).toInt64) = by8 (c + d) (d + e) (e + f) (f + g) (g + h) h 0 0 := by
      rw [tn_ushr x4 16 16 (by decide +kernel), y4, Nat.shiftRight_eq_div_pow]; exact by8_s2 (by omega) (by omega) ..
    have e2 : by8 (a + b) (b + c) (c + d) (d + e) (e + f) (f + g) (g + h) h + by8 (c + d) (d + e) (e + f) (f + g) (g + h) h 0 0 = by8 (a + b + (c + d)) (b + c + (d + e)) (c + d + (e + f)) (d + e + (f + g)) (e + f + (g + h)) (f + g + h) (g + h) h := by rw [by8_add]; rfl
    rw [tn_add (by rw [e1, y4, e2]; exact by8_lt (by omega) (by omega) (by omega) (by omega) (by omega) (by omega) (by omega) (by omega)), e1, y4, e2]
  generalize x4 + ((x4.toUInt64 >>> ((16 : Int32).toInt64.toUInt64 &&& Int64.toUInt64 63)).toInt64) = x5 at y5 ⊢
  have y6 : tn (x5 + ((x5.toUInt64 >>> ((32 : Int32).toInt64.toUInt64 &&& Int64.toUInt64 63)).toInt64)) = by8 (a + b + (c + d) + (e + f + (g + h))) (b + c + (d + e) + (f + g + h)) (c + d + (e + f) + (g + h)) (d + e + (f + g) + h) (e + f + (g + h)) (f + g + h) (g + h) h := by
    have e1 : tn ((x5.toUInt64 >>> ((32 : Int32).toInt64.toUInt64 &&& Int64.toUInt64 63)).toInt64) = by8 (e + f + (g + h)) (f + g + h) (g + h) h 0 0 0 0 := by
      rw [tn_ushr x5 32 32 (by decide +kernel), y5, Nat.shiftRight_eq_div_pow]; exact by8_s4 (by omega) (by omega) (by omega) (by omega) ..
    have e2 : by8 (a + b + (c + d)) (b + c + (d + e)) (c + d + (e + f)) (d + e + (f + g)) (e + f + (g + h)) (f + g + h) (g + h) h + by8 (e + f + (g + h)) (f + g + h) (g + h) h 0 0 0 0 = by8 (a + b + (c + d) + (e + f + (g + h))) (b + c + (d + e) + (f + g + h)) (c + d + (e + f) + (g + h)) (d + e + (f + g) + h) (e + f + (g + h)) (f + g + h) (g + h) h := by rw [by8_add]; rfl
    rw [tn_add (by rw [e1, y5, e2]; exact by8_lt (by omega) (by omega) (by omega) (by omega) (by omega) (by omega) (by omega) (by omega)), e1, y5, e2]
  have y7 : tn (x5 + ((x5.toUInt64 >>> ((32 : Int32).toInt64.toUInt64 &&& Int64.toUInt64 63)).toInt64)) % 128 = a + (b + (c + (d + (e + (f + (g + h)))))) := by
    rw [y6, by8_low (by omega)]
    omega
  rw [t127 _ y7]
/-- told's worlds -/
theorem worldsOf9 {c : Nat → Int32} {R : RW} {cl n : Nat} (h : SRR c R cl n) (who : Int32) : f_X1_worldsOf (nI cl) c who = some (nI (cN (fun w => AL R (fun s => decide (who = 2) || decide (R 2 s = who)) (nI w) cl) 256)) := by
  unfold f_X1_worldsOf L_X1_worldsOf_5
  refine oF_run0 (fun q => (nI (cN (fun w => AL R (fun s => decide (who = 2) || decide (R 2 s = who)) (nI w) cl) (64 * q)), nI q)) 4 _ rfl (by omega) ?_ ?_
  · intro q hq k
    dsimp only
    unfold b_X1_worldsOf_5
    obtain ⟨x, e1, e2⟩ := whereAll9 h hq who
    rw [if_neg (by rw [i4, nI_le_iff (by omega) (by omega)]; omega), e1, oB1_s, bitCount13, oB1_s, oL_s, oL_s, nI_1, nI_add, show 64 * (q + 1) = 64 * q + 64 by omega, cN_add, cN_congr e2]
  · intro k
    dsimp only
    unfold b_X1_worldsOf_5
    rw [if_pos (show (4 : Int32) ≤ nI 4 by decide)]
theorem told456 {c : Nat → Int32} {R : RW} {cl n : Nat} (h : SRR c R cl n) : (∀ who : Int32, (who = 0 ∨ who = 1) → ∃ set r, f_X10_clausesOf (nI cl) (R 2) who = some set ∧ f_X10_worldsOf (nI cl) (R 0) (R 1) set = some r ∧ f_X1_worldsOf (nI cl) c who = some r) ∧ ∃ r, f_X10_worldsOf (nI cl) (R 0) (R 1) (((1 : Int32) <<< (nI cl &&& 31)) - 1) = some r ∧ f_X1_worldsOf (nI cl) c 2 = some r := by
  have hcl : cl ≤ 10 := h.1
  constructor
  · intro who hw
    obtain ⟨set, e1, e2⟩ := clausesOf10 R hcl who
    refine ⟨set, _, e1, worldsOf10 R hcl set, ?_⟩
    rw [worldsOf9 h, cN_congr (fun w _ => AL_congr (sel' := fun s => bt set s) (nI w) (fun s hs => ?_))]
    rw [e2 s (by omega), decide_eq_true hs, Bool.true_and, decide_eq_false (show ¬ who = 2 by rcases hw with rfl | rfl <;> decide), Bool.false_or]
  · refine ⟨_, worldsOf10 R hcl _, ?_⟩
    rw [worldsOf9 h, cN_congr (fun w _ => AL_congr (sel' := fun s => bt (((1 : Int32) <<< (nI cl &&& 31)) - 1) s) (nI w) (fun s hs => ?_))]
    rw [full_bt cl hcl s (by omega), decide_eq_true hs]; rfl
