/-! NUMBERS: bits of small numbers (bt, b_ext, b_sshr, b_shl began as the kit's BITS rows) -/
theorem zRet.of {K : zK} {l : Launch} {d : Nat} {M : zM} {av : List Value} {n : Nat} {h : zH} {v : Option Value} {h' : zH} (hy : plainName M.1.cls = true) (hlen : (lg_sl av).length ≤ M.2.2.1) (k : ∀ Q : zQ, Q v n h' → zGo K l d M 0 (lv_args 0 av) [] n h 0 0 Q) : zRet K l d M av n h v h' :=
  zRuns.of hy hlen (k _ ⟨rfl, rfl, rfl⟩)
theorem zRex.of {K : zK} {l : Launch} {d : Nat} {M : zM} {av : List Value} {n : Nat} {h : zH} {P : Option Value → zH → Prop} (hy : plainName M.1.cls = true) (hlen : (lg_sl av).length ≤ M.2.2.1) (k : ∀ Q : zQ, (∀ v h', P v h' → Q v n h') → zGo K l d M 0 (lv_args 0 av) [] n h 0 0 Q) : zRex K l d M av n h P :=
  zRuns.of hy hlen (k _ (fun _ _ hp => ⟨rfl, hp⟩))
theorem z_down {P : Nat → Prop} (N : Nat) (hs : ∀ k, k ≤ N → (k < N → P (k + 1)) → P k) : ∀ k, k ≤ N → P k := by
  have key : ∀ j k, k + j = N → P k := by
    intro j
    induction j with
    | zero => intro k hk; exact hs k (by omega) (fun q => by omega)
    | succ j ih => intro k hk; exact hs k (by omega) (fun _ => ih (k + 1) (by omega))
  intro k hk
  exact key (N - k) k (by omega)
def zcnt (p : Nat → Bool) : Nat → Nat
  | 0 => 0
  | k + 1 => zcnt p k + (if p k then 1 else 0)
theorem zcnt_le (p : Nat → Bool) (n : Nat) : zcnt p n ≤ n := by
  induction n with
  | zero => exact Nat.le_refl _
  | succ n ih => simp only [zcnt]; split <;> omega
theorem zb_0 {p : Prop} [Decidable p] : (if p then (1 : Int32) else 0) = 0 ↔ ¬ p := by
  by_cases h : p <;> simp [h]
theorem zb_n {p : Prop} [Decidable p] : ¬ (if p then (1 : Int32) else 0) = 0 ↔ p := by
  by_cases h : p <;> simp [h]
def bt (x : Int32) (i : Nat) : Bool := x.toBitVec.getLsbD i
theorem b_ext {x y : Int32} (h : ∀ i, i < 32 → bt x i = bt y i) : x = y := Int32.toBitVec_inj.mp (BitVec.eq_of_getLsbD_eq (fun i hi => h i hi))
theorem b_or (x y : Int32) (i : Nat) : bt (x ||| y) i = (bt x i || bt y i) := by unfold bt; rw [Int32.toBitVec_or, BitVec.getLsbD_or]
theorem b_and (x y : Int32) (i : Nat) : bt (x &&& y) i = (bt x i && bt y i) := by unfold bt; rw [Int32.toBitVec_and, BitVec.getLsbD_and]
theorem b_xor (x y : Int32) (i : Nat) : bt (x ^^^ y) i = (bt x i ^^ bt y i) := by unfold bt; rw [Int32.toBitVec_xor, BitVec.getLsbD_xor]
theorem b_m1 : ∀ i, i < 32 → bt (-1) i = true := by decide +kernel
theorem s_l : ∀ n, n < 32 → ((nI n &&& 31).toBitVec.smod 32).toNat = n := by decide +kernel
theorem b_shl (n : Nat) (hn : n < 32) (x : Int32) {i : Nat} (hi : i < 32) : bt (x <<< (nI n &&& 31)) i = (decide (n ≤ i) && bt x (i - n)) := by
  unfold bt
  rw [Int32.toBitVec_shiftLeft]
  show (x.toBitVec <<< ((nI n &&& 31).toBitVec.smod 32).toNat).getLsbD i = _
  rw [s_l n hn, BitVec.getLsbD_shiftLeft]
  rcases Nat.lt_or_ge i n with h | h
  · simp [h, Nat.not_le.mpr h]
  · simp [hi, h, Nat.not_lt.mpr h]
theorem b_sshr (n : Nat) (hn : n < 32) (x : Int32) {i : Nat} (hi : i < 32) : bt (x >>> (nI n &&& 31)) i = if n + i < 32 then bt x (n + i) else bt x 31 := by
  unfold bt
  rw [Int32.toBitVec_shiftRight]
  show (x.toBitVec.sshiftRight ((nI n &&& 31).toBitVec.smod 32).toNat).getLsbD i = _
  rw [s_l n hn, BitVec.getLsbD_sshiftRight, BitVec.msb_eq_getLsbD_last]
  simp [hi]
theorem b_nI (a : Nat) {i : Nat} (hi : i < 32) : bt (nI a) i = a.testBit i := by
  show (BitVec.ofNat 32 a).getLsbD i = _
  rw [BitVec.getLsbD_ofNat, decide_eq_true hi, Bool.true_and]
theorem z_and (a b : Nat) : nI a &&& nI b = nI (a &&& b) := b_ext fun i hi => by
  rw [b_and, b_nI _ hi, b_nI _ hi, b_nI _ hi, Nat.testBit_and]
theorem z_or (a b : Nat) : nI a ||| nI b = nI (a ||| b) := b_ext fun i hi => by
  rw [b_or, b_nI _ hi, b_nI _ hi, b_nI _ hi, Nat.testBit_or]
theorem z_xor (a b : Nat) : nI a ^^^ nI b = nI (a ^^^ b) := b_ext fun i hi => by
  rw [b_xor, b_nI _ hi, b_nI _ hi, b_nI _ hi, Nat.testBit_xor]
/-- a without b -/
def zdif (a b : Nat) : Nat := a ^^^ (a &&& b)
theorem zdif_bit (a b i : Nat) : (zdif a b).testBit i = (a.testBit i && !b.testBit i) := by
  unfold zdif
  rw [Nat.testBit_xor, Nat.testBit_and]
  cases a.testBit i <;> cases b.testBit i <;> rfl
theorem z_andn (a b : Nat) : nI a &&& (nI b ^^^ (-1)) = nI (zdif a b) := b_ext fun i hi => by
  rw [b_and, b_xor, b_m1 i hi, b_nI _ hi, b_nI _ hi, b_nI _ hi, zdif_bit]
  cases a.testBit i <;> cases b.testBit i <;> rfl
theorem z_shl {a k : Nat} (hk : k < 32) : nI a <<< (nI k &&& 31) = nI (a <<< k) := b_ext fun i hi => by
  rw [b_shl k hk _ hi, b_nI _ (by omega), b_nI _ hi, Nat.testBit_shiftLeft]
theorem z_shr {a k : Nat} (ha : a < 2 ^ 31) (hk : k < 32) : nI a >>> (nI k &&& 31) = nI (a >>> k) := b_ext fun i hi => by
  rw [b_sshr k hk _ hi, b_nI _ hi, Nat.testBit_shiftRight]
  split
  · next q => rw [b_nI _ q]
  · next q =>
    rw [b_nI _ (by decide), Nat.testBit_lt_two_pow (Nat.lt_of_lt_of_le ha (Nat.pow_le_pow_right (by decide) (by decide : 31 ≤ 31))), Nat.testBit_lt_two_pow (Nat.lt_of_lt_of_le ha (Nat.pow_le_pow_right (by decide) (by omega : 31 ≤ k + i)))]
/-- one bit -/
theorem z_bit {a k : Nat} (ha : a < 2 ^ 31) (hk : k < 32) : (nI a >>> (nI k &&& 31)) &&& 1 = if a.testBit k then 1 else 0 := by
  rw [z_shr ha hk, show (1 : Int32) = nI 1 from rfl, z_and]
  have e : a >>> k &&& 1 = if a.testBit k then 1 else 0 := by
    have h2 := Nat.mod_two_eq_zero_or_one (a >>> k)
    have h3 : a.testBit k = decide (a >>> k % 2 = 1) := by rw [Nat.testBit_eq_decide_div_mod_eq, Nat.shiftRight_eq_div_pow]
    rw [Nat.and_one_is_mod, h3]
    rcases h2 with q | q <;> simp [q]
  rw [e]
  split <;> rfl
/-- how many of the lowest six bits -/
def zpop (s : Nat) : Nat := zcnt (fun k => s.testBit k) 6
theorem zpop_le (s : Nat) : zpop s ≤ 6 := zcnt_le _ _
