/-! LONG NUMBERS -/
theorem lL_toInt {n : Nat} (h : n < 2 ^ 63) : (lN n).toInt = (n : Int) := lg_ofNat_toInt h
theorem lL_le {a b : Nat} (ha : a < 2 ^ 63) (hb : b < 2 ^ 63) : lN a ≤ lN b ↔ a ≤ b := by
  rw [Int64.le_iff_toInt_le, lL_toInt ha, lL_toInt hb]; omega
theorem lL_lt {a b : Nat} (ha : a < 2 ^ 63) (hb : b < 2 ^ 63) : lN a < lN b ↔ a < b := by
  rw [Int64.lt_iff_toInt_lt, lL_toInt ha, lL_toInt hb]; omega
theorem lL_eq {a b : Nat} (ha : a < 2 ^ 63) (hb : b < 2 ^ 63) : lN a = lN b ↔ a = b := by
  rw [← Int64.toInt_inj, lL_toInt ha, lL_toInt hb]; omega
def bL (x : Int64) (i : Nat) : Bool := x.toBitVec.getLsbD i
theorem bL_ext {x y : Int64} (h : ∀ i, i < 64 → bL x i = bL y i) : x = y := Int64.toBitVec_inj.mp (BitVec.eq_of_getLsbD_eq (fun i hi => h i hi))
theorem bL_and (x y : Int64) (i : Nat) : bL (x &&& y) i = (bL x i && bL y i) := by unfold bL; rw [Int64.toBitVec_and, BitVec.getLsbD_and]
theorem bL_m1 : ∀ i, i < 64 → bL (-1) i = true := by decide +kernel
theorem bL_lN (a : Nat) {i : Nat} (hi : i < 64) : bL (lN a) i = a.testBit i := by
  show (BitVec.ofNat 64 a).getLsbD i = _
  rw [BitVec.getLsbD_ofNat, decide_eq_true hi, Bool.true_and]
theorem lL_and (a b : Nat) : lN a &&& lN b = lN (a &&& b) := bL_ext fun i hi => by
  rw [bL_and, bL_lN _ hi, bL_lN _ hi, bL_lN _ hi, Nat.testBit_and]
theorem lL_m1 (x : Int64) : x &&& (-1) = x := bL_ext fun i hi => by
  rw [bL_and, bL_m1 i hi, Bool.and_true]
theorem sL_l : ∀ n, n < 64 → (((nI n).toInt64 &&& 63).toBitVec.smod 64).toNat = n := by decide +kernel
theorem sL_u : ∀ n, n < 64 → (((nI n).toInt64.toUInt64 &&& Int64.toUInt64 63).toBitVec % 64).toNat = n := by decide +kernel
theorem lL_shl {a k : Nat} (hk : k < 64) : lN a <<< ((nI k).toInt64 &&& 63) = lN (a * 2 ^ k) := bL_ext fun i hi => by
  rw [bL_lN _ hi]
  unfold bL
  rw [Int64.toBitVec_shiftLeft]
  show ((lN a).toBitVec <<< (((nI k).toInt64 &&& 63).toBitVec.smod 64).toNat).getLsbD i = _
  rw [sL_l k hk, BitVec.getLsbD_shiftLeft, ← Nat.shiftLeft_eq, Nat.testBit_shiftLeft]
  rcases Nat.lt_or_ge i k with h | h
  · simp [h, Nat.not_le.mpr h]
  · have e := bL_lN a (i := i - k) (by omega)
    unfold bL at e
    simp [hi, h, Nat.not_lt.mpr h, e]
theorem lL_ushr {a k : Nat} (hk : k < 64) (ha : a < 2 ^ 63) : ((lN a).toUInt64 >>> ((nI k).toInt64.toUInt64 &&& Int64.toUInt64 63)).toInt64 = lN (a / 2 ^ k) := bL_ext fun i hi => by
  rw [bL_lN _ hi]
  show ((lN a).toUInt64 >>> ((nI k).toInt64.toUInt64 &&& Int64.toUInt64 63)).toBitVec.getLsbD i = _
  rw [UInt64.toBitVec_shiftRight]
  show ((lN a).toBitVec >>> (((nI k).toInt64.toUInt64 &&& Int64.toUInt64 63).toBitVec % 64).toNat).getLsbD i = _
  rw [sL_u k hk, BitVec.getLsbD_ushiftRight, ← Nat.shiftRight_eq_div_pow, Nat.testBit_shiftRight]
  rcases Nat.lt_or_ge (k + i) 64 with h | h
  · have e := bL_lN a h
    unfold bL at e
    exact e
  · rw [BitVec.getLsbD_of_ge _ _ h, Nat.testBit_lt_two_pow (Nat.lt_of_lt_of_le ha (Nat.pow_le_pow_right (by decide) (by omega : 63 ≤ k + i)))]
theorem lL_i2l {k : Nat} (hk : k < 2 ^ 31) : (nI k).toInt64 = lN k := by
  rw [← Int64.toInt_inj, lL_toInt (by omega), Int32.toInt_toInt64, nI_toInt hk]
theorem lL_far : (9223372036854775807 : Int64) = lN (2 ^ 63 - 1) := by decide +kernel
theorem lL_msk : (8646911284551352320 : Int64) = lN (15 * 2 ^ 59) := by decide +kernel
theorem lL_2047 : (2047 : Int64) = lN (2 ^ 11 - 1) := by decide +kernel
theorem lL_3 : (3 : Int64) = lN 3 := rfl
/-- what a price is short -/
def zSh (a : Nat) : Nat := a / 2 ^ 59 * 2 ^ 59
theorem z_and15 {a : Nat} (ha : a < 2 ^ 63) : a &&& (15 * 2 ^ 59) = zSh a := by
  apply Nat.eq_of_testBit_eq
  intro i
  unfold zSh
  rw [Nat.testBit_and, ← Nat.shiftLeft_eq, ← Nat.shiftLeft_eq, Nat.testBit_shiftLeft, Nat.testBit_shiftLeft, ← Nat.shiftRight_eq_div_pow, Nat.testBit_shiftRight, show (15 : Nat) = 2 ^ 4 - 1 from rfl, Nat.testBit_two_pow_sub_one]
  rcases Nat.lt_or_ge i 59 with h | h
  · simp [Nat.not_le.mpr h]
  · rw [show 59 + (i - 59) = i by omega]
    rcases Nat.lt_or_ge i 63 with h2 | h2
    · simp [h, show i - 59 < 4 by omega]
    · rw [Nat.testBit_lt_two_pow (Nat.lt_of_lt_of_le ha (Nat.pow_le_pow_right (by decide) h2))]
      simp
theorem lL_short {a : Nat} (ha : a < 2 ^ 63) : lN a &&& 8646911284551352320 = lN (zSh a) := by
  rw [lL_msk, lL_and, z_and15 ha]
theorem zSh_le (a : Nat) : zSh a ≤ a := Nat.div_mul_le_self _ _
theorem zSh_mono {a b : Nat} (h : a ≤ b) : zSh a ≤ zSh b := Nat.mul_le_mul_right _ (Nat.div_le_div_right h)
theorem z_mod3 (a : Nat) : a &&& 3 = a % 4 := by
  rw [show (3 : Nat) = 2 ^ 2 - 1 from rfl, Nat.and_two_pow_sub_one_eq_mod]
theorem z_mod11 (a : Nat) : a &&& (2 ^ 11 - 1) = a % 2 ^ 11 := Nat.and_two_pow_sub_one_eq_mod _ _
