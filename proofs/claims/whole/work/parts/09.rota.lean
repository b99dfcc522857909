/-! ROTA, the rest -/
theorem isRota.same {lo hi : Nat} {h h1 : zH} {a : Nat} {tu tw : Int32} {S B : Nat → Int32} (hR : isRota h a tu tw S B) (s : zSame lo hi h h1) (hp : a + 2 < lo ∨ hi < a) : isRota h1 a tu tw S B :=
  ⟨(s _ (by omega)).trans hR.1, (s _ (by omega)).trans hR.2.1, (s _ (by omega)).trans hR.2.2⟩
/-- a set out of its members -/
def zbits (p : Nat → Bool) : Nat → Nat
  | 0 => 0
  | k + 1 => zbits p k ||| (if p k then 1 <<< k else 0)
theorem zbits_bit (p : Nat → Bool) (k i : Nat) : (zbits p k).testBit i = (decide (i < k) && p i) := by
  induction k with
  | zero => simp [zbits]
  | succ k ih =>
    rw [zbits, Nat.testBit_or, ih]
    by_cases hk : p k
    · rw [if_pos hk, Nat.testBit_shiftLeft]
      by_cases q : i = k
      · subst q; simp [hk]
      · by_cases q2 : i < k
        · simp [q2, Nat.lt_succ_of_lt q2, Nat.not_le.mpr q2]
        · have q3 : ¬ i < k + 1 := by omega
          have q4 : (1 : Nat).testBit (i - k) = false := Nat.testBit_lt_two_pow (Nat.one_lt_two_pow (by omega))
          simp [q2, q3, q4]
    · rw [if_neg hk]
      by_cases q : i = k
      · subst q; simp [hk]
      · have q5 : (i < k + 1) ↔ i < k := by omega
        simp [q5]
theorem zbits_lt (p : Nat → Bool) (k : Nat) : zbits p k < 2 ^ k := Nat.lt_pow_two_of_testBit _ (fun i hi => by
  rw [zbits_bit, decide_eq_false (Nat.not_lt.mpr hi)]; rfl)
section
variable {K : zK} {l : Launch} {n a r g p : Nat} {h : zH} {tu tw x y : Int32} {S B : Nat → Int32} {P : zP}
theorem r_X3_ringerAt (hR : isRota h a tu tw S B) (ha : a + 2 < n) (hg : g < 4) : zRex K l 2 mX3_ringerAt [.ref a, .int (nI g), .int y] n h (fun v h' => h' = h ∧ ((∃ r, r < 6 ∧ B (4 * r + g) = y ∧ (∀ q, q < r → B (4 * q + g) ≠ y) ∧ v = some (.int (nI r))) ∨ ((∀ q, q < 6 → B (4 * q + g) ≠ y) ∧ v = some (.int (-9))))) := by
  refine zRex.of (by decide) (Nat.le_of_ble_eq_true rfl) (fun Q hQ => ?_)
  have h1 := hR.1
  have lp : ∀ k, k ≤ 6 → (∀ q, q < k → B (4 * q + g) ≠ y) → zGo K l 2 mX3_ringerAt 2 [(0, .ref a), (1, .int (nI g)), (2, .int y), (3, .int (nI k))] [] n h 0 0 Q := by
    refine z_down 6 (fun k hk ih hn => ?_)
    refine kX3_ringerAt_2 ?_
    refine zb_go (zg_iload_n rfl) rfl ?_
    refine zb_go (zg_bipush 6 (by decide)) rfl ?_
    refine zb_br (zg_icmp_ge (tgt := 26) (by decide)) rfl (fun c => ?_) (fun c => ?_)
    · have e : k = 6 := by
        have := (nI_leI (a := 6) (b := k) (by decide) (by omega)).mp c
        omega
      subst e
      refine kX3_ringerAt_26 ?_
      refine zb_go (zg_bipush (-9) (by decide)) rfl ?_
      refine zb_end (zg_ireturn rfl (by rfl) ?_) rfl
      exact hQ _ _ ⟨rfl, Or.inr ⟨hn, rfl⟩⟩
    · have hk4 : k < 6 := Nat.not_le.mp (fun q => c (nI_le q (by omega)))
      refine zb_go (zg_aload_n rfl) rfl ?_
      refine zb_go (zg_iload_n rfl) rfl ?_
      refine zb_go (zg_iload_n rfl) rfl ?_
      refine zb_callv (r_X3_bellOf hR ha hk4 hg) lX3_38 (by repeat (first | assumption | exact z_up_self _ _ _ | refine (z_up_ne (by first | decide | omega)).trans ?_)) rfl rfl (by first | assumption | decide | omega) (by decide) rfl (Nat.le_of_ble_eq_true rfl) rfl ?_
      refine zb_go (zg_iload_n rfl) rfl ?_
      refine zb_br (zg_icmp_ne (tgt := 20) (by decide)) rfl (fun c1 => ?_) (fun c1 => ?_)
      · refine kX3_ringerAt_20 ?_
        refine zb_go (zg_iinc 1 (by decide) rfl (by decide)) rfl ?_
        refine zb_end (zg_goto (tgt := 2) (by decide) ?_) rfl
        rw [nI_1]
        refine ih hk4 (fun q hq => ?_)
        rcases Nat.lt_or_ge q k with z | z
        · exact hn q z
        · rw [show q = k by omega]; exact c1
      · refine zb_go (zg_iload_n rfl) rfl ?_
        refine zb_end (zg_ireturn rfl (by rfl) ?_) rfl
        exact hQ _ _ ⟨rfl, Or.inl ⟨k, hk4, c1, hn, rfl⟩⟩
  refine kX3_ringerAt_0 ?_
  refine zb_go (zg_iconst 0 (by decide)) rfl ?_
  refine zb_go (zg_istore_n (by decide)) rfl ?_
  refine zb_out ?_
  exact lp 0 (by omega) (fun q hq => absurd hq (Nat.not_lt_zero _))
theorem rT_le (B : Nat → Int32) (r : Nat) : rT B r 4 ≤ 4 := zcnt_le _ _
/-- a truth value as an answer -/
def zIf (p : Prop) (v : Option Value) : Prop := (p ∧ v = some (.int 1)) ∨ (¬ p ∧ v = some (.int 0))
def rHasRoom (P : zP) (B : Nat → Int32) (r g b : Nat) : Prop := (∀ q, q < 6 → B (4 * q + g) ≠ nI b) ∧ rT B r 4 < pTi P ∧ ∀ q, q < 4 → B (4 * r + q) ≠ -9 → pRe P < zdist g q
theorem r_X3_hasRoom {b : Nat} (hR : isRota h a tu tw S B) (ha : a + 2 < n) (hP : isPar h p P) (hp : p + 5 < n) (ok : okP P) (hr : r < 6) (hg : g < 4) : zRex K l 4 mX3_hasRoom [.ref a, .ref p, .int (nI r), .int (nI g), .int (nI b)] n h (fun v h' => h' = h ∧ zIf (rHasRoom P B r g b) v) := by
  refine zRex.of (by decide) (Nat.le_of_ble_eq_true rfl) (fun Q hQ => ?_)
  have h1 := hR.1
  have h2 := hP.1
  have k1 := ok.2.2.2.1
  have k2 := ok.2.2.2.2.1
  have k3 := rT_le B r
  have lp : rT B r 4 < pTi P → (∀ q, q < 6 → B (4 * q + g) ≠ nI b) → ∀ k, k ≤ 4 → (∀ q, q < k → B (4 * r + q) ≠ -9 → pRe P < zdist g q) → zGo K l 4 mX3_hasRoom 29 [(0, .ref a), (1, .ref p), (2, .int (nI r)), (3, .int (nI g)), (4, .int (nI b)), (5, .int (nI k))] [] n h 0 0 Q := by
    intro hti hno
    refine z_down 4 (fun k hk ih hn => ?_)
    refine kX3_hasRoom_29 ?_
    refine zb_go (zg_iload rfl) rfl ?_
    refine zb_go (zg_iconst 4 (by decide)) rfl ?_
    refine zb_br (zg_icmp_ge (tgt := 67) (by decide)) rfl (fun c => ?_) (fun c => ?_)
    · have e : k = 4 := by
        have := (nI_leI (a := 4) (b := k) (by decide) (by omega)).mp c
        omega
      subst e
      refine kX3_hasRoom_67 ?_
      refine zb_go (zg_iconst 1 (by decide)) rfl ?_
      refine zb_end (zg_ireturn rfl (by rfl) ?_) rfl
      exact hQ _ _ ⟨rfl, Or.inl ⟨⟨hno, hti, hn⟩, rfl⟩⟩
    · have hk4 : k < 4 := Nat.not_le.mp (fun q => c (nI_le q (by omega)))
      have nx : (B (4 * r + k) ≠ -9 → pRe P < zdist g k) → ∀ q, q < k + 1 → B (4 * r + q) ≠ -9 → pRe P < zdist g q := by
        intro hz q hq
        rcases Nat.lt_or_ge q k with z | z
        · exact hn q z
        · rw [show q = k by omega]; exact hz
      refine zb_go (zg_aload_n rfl) rfl ?_
      refine zb_go (zg_iload_n rfl) rfl ?_
      refine zb_go (zg_iload rfl) rfl ?_
      refine zb_callv (r_X3_hasTurn hR ha hr hk4) lX3_42 (by repeat (first | assumption | exact z_up_self _ _ _ | refine (z_up_ne (by first | decide | omega)).trans ?_)) rfl rfl (by first | assumption | decide | omega) (by decide) rfl (Nat.le_of_ble_eq_true rfl) rfl ?_
      refine zb_br (zg_if_eq (tgt := 61) (by decide)) rfl (fun c1 => ?_) (fun c1 => ?_)
      · have c1 := zb_0.mp c1
        refine kX3_hasRoom_61 ?_
        refine zb_go (zg_iinc 1 (by decide) rfl (by decide)) rfl ?_
        refine zb_end (zg_goto (tgt := 29) (by decide) ?_) rfl
        rw [nI_1]
        exact ih hk4 (nx (fun q => absurd q c1))
      · have c1 := zb_n.mp c1
        refine zb_go (zg_iload_n rfl) rfl ?_
        refine zb_go (zg_iload rfl) rfl ?_
        refine zb_go zg_isub rfl ?_
        refine zb_go (zg_mabs wlX3_57 (by decide) (Nat.le_of_ble_eq_true rfl)) rfl ?_
        rw [z_absd (by omega) (by omega)]
        have hd : zdist g k < 8 := by unfold zdist; split <;> omega
        refine zb_go (zg_aload_n rfl) rfl ?_
        refine zb_go (zg_getfield fX3_62 (by first | assumption | decide | omega) (by repeat (first | assumption | exact z_up_self _ _ _ | refine (z_up_ne (by first | decide | omega)).trans ?_)) (by rfl)) rfl ?_
        refine zb_br (zg_icmp_gt (tgt := 61) (by decide)) rfl (fun c2 => ?_) (fun c2 => ?_)
        · have c2 := (nI_ltI (by omega) (by omega)).mp c2
          refine kX3_hasRoom_61 ?_
          refine zb_go (zg_iinc 1 (by decide) rfl (by decide)) rfl ?_
          refine zb_end (zg_goto (tgt := 29) (by decide) ?_) rfl
          rw [nI_1]
          exact ih hk4 (nx (fun _ => c2))
        · have c2 : ¬ pRe P < zdist g k := fun q => c2 (nI_lt q (by omega))
          refine zb_go (zg_iconst 0 (by decide)) rfl ?_
          refine zb_end (zg_ireturn rfl (by rfl) ?_) rfl
          exact hQ _ _ ⟨rfl, Or.inr ⟨fun q => c2 (q.2.2 k hk4 c1), rfl⟩⟩
  refine kX3_hasRoom_0 ?_
  refine zb_go (zg_aload_n rfl) rfl ?_
  refine zb_go (zg_iload_n rfl) rfl ?_
  refine zb_go (zg_iload rfl) rfl ?_
  refine zb_callvx (r_X3_ringerAt hR ha hg) lX3_45 (by repeat (first | assumption | exact z_up_self _ _ _ | refine (z_up_ne (by first | decide | omega)).trans ?_)) rfl rfl (by first | assumption | decide | omega) (by decide) rfl (Nat.le_of_ble_eq_true rfl) rfl ?_
  rintro v h' ⟨rfl, hv⟩
  rcases hv with ⟨r', hr', hb', -, rfl⟩ | ⟨hno, rfl⟩
  · refine zb_go (zg_bipush (-9) (by decide)) rfl ?_
    refine zb_br (zg_icmp_ne (tgt := 24) (by decide)) rfl (fun c0 => ?_) (fun c0 => ?_)
    · refine kX3_hasRoom_24 ?_
      refine zb_go (zg_iconst 0 (by decide)) rfl ?_
      refine zb_end (zg_ireturn rfl (by rfl) ?_) rfl
      exact hQ _ _ ⟨rfl, Or.inr ⟨fun q => q.1 r' hr' hb', rfl⟩⟩
    · exact absurd (c0 : nI r' = -9) (fun q => nI_pos (n := r') (by omega) (by rw [q]; decide))
  · refine zb_go (zg_bipush (-9) (by decide)) rfl ?_
    refine zb_br (zg_icmp_ne (tgt := 24) (by decide)) rfl (fun c0 => ?_) (fun c0 => ?_)
    · exact absurd rfl c0
    · refine zb_go (zg_aload_n rfl) rfl ?_
      refine zb_go (zg_iload_n rfl) rfl ?_
      refine zb_callv (r_X3_timesOf hR ha hr) lX3_48 (by repeat (first | assumption | exact z_up_self _ _ _ | refine (z_up_ne (by first | decide | omega)).trans ?_)) rfl rfl (by first | assumption | decide | omega) (by decide) rfl (Nat.le_of_ble_eq_true rfl) rfl ?_
      refine zb_go (zg_aload_n rfl) rfl ?_
      refine zb_go (zg_getfield fX3_52 (by first | assumption | decide | omega) (by repeat (first | assumption | exact z_up_self _ _ _ | refine (z_up_ne (by first | decide | omega)).trans ?_)) (by rfl)) rfl ?_
      refine zb_br (zg_icmp_lt (tgt := 26) (by decide)) rfl (fun c1 => ?_) (fun c1 => ?_)
      · have c1 := (nI_ltI (by omega) (by omega)).mp c1
        refine kX3_hasRoom_26 ?_
        refine zb_go (zg_iconst 0 (by decide)) rfl ?_
        refine zb_go (zg_istore (by decide)) rfl ?_
        refine zb_out ?_
        exact lp c1 hno 0 (by omega) (fun q hq => absurd hq (Nat.not_lt_zero _))
      · refine zb_out ?_
        refine kX3_hasRoom_24 ?_
        refine zb_go (zg_iconst 0 (by decide)) rfl ?_
        refine zb_end (zg_ireturn rfl (by rfl) ?_) rfl
        exact hQ _ _ ⟨rfl, Or.inr ⟨fun q => c1 (nI_lt q.2.1 (by omega)), rfl⟩⟩
/-- who rings in an hour, as a set -/
def rIn (B : Nat → Int32) (g k : Nat) : Nat := zbits (fun r => decide (B (4 * r + g) ≠ -9)) k
theorem rIn_lt (B : Nat → Int32) (g : Nat) : rIn B g 6 < 64 := zbits_lt _ _
theorem r_X3_ringersIn (hR : isRota h a tu tw S B) (ha : a + 2 < n) (hg : g < 4) : zRet K l 3 mX3_ringersIn [.ref a, .int (nI g)] n h (some (.int (nI (rIn B g 6)))) h := by
  refine zRet.of (by decide) (Nat.le_of_ble_eq_true rfl) (fun Q hQ => ?_)
  have h1 := hR.1
  have lp : ∀ k, k ≤ 6 → zGo K l 3 mX3_ringersIn 4 [(0, .ref a), (1, .int (nI g)), (2, .int (nI (rIn B g k))), (3, .int (nI k))] [] n h 0 0 Q := by
    refine z_down 6 (fun k hk ih => ?_)
    refine kX3_ringersIn_4 ?_
    refine zb_go (zg_iload_n rfl) rfl ?_
    refine zb_go (zg_bipush 6 (by decide)) rfl ?_
    refine zb_br (zg_icmp_ge (tgt := 31) (by decide)) rfl (fun c => ?_) (fun c => ?_)
    · have e : k = 6 := by
        have := (nI_leI (a := 6) (b := k) (by decide) (by omega)).mp c
        omega
      subst e
      refine kX3_ringersIn_31 ?_
      refine zb_go (zg_iload_n rfl) rfl ?_
      refine zb_end (zg_ireturn rfl (by rfl) ?_) rfl
      exact hQ
    · have hk4 : k < 6 := Nat.not_le.mp (fun q => c (nI_le q (by omega)))
      refine zb_go (zg_aload_n rfl) rfl ?_
      refine zb_go (zg_iload_n rfl) rfl ?_
      refine zb_go (zg_iload_n rfl) rfl ?_
      refine zb_callv (r_X3_hasTurn hR ha hk4 hg) lX3_42 (by repeat (first | assumption | exact z_up_self _ _ _ | refine (z_up_ne (by first | decide | omega)).trans ?_)) rfl rfl (by first | assumption | decide | omega) (by decide) rfl (Nat.le_of_ble_eq_true rfl) rfl ?_
      refine zb_br (zg_if_eq (tgt := 25) (by decide)) rfl (fun c1 => ?_) (fun c1 => ?_)
      · have e : rIn B g (k + 1) = rIn B g k := by
          have q := zb_0.mp c1
          simp only [rIn, zbits, decide_eq_true_eq, if_neg q, Nat.or_zero]
        refine kX3_ringersIn_25 ?_
        refine zb_go (zg_iinc 1 (by decide) rfl (by decide)) rfl ?_
        refine zb_end (zg_goto (tgt := 4) (by decide) ?_) rfl
        rw [nI_1, ← e]
        exact ih hk4
      · have e : rIn B g (k + 1) = rIn B g k ||| 1 <<< k := by
          have q := zb_n.mp c1
          simp only [rIn, zbits, decide_eq_true_eq, if_pos q]
        refine zb_go (zg_iload_n rfl) rfl ?_
        refine zb_go (zg_iconst 1 (by decide)) rfl ?_
        refine zb_go (zg_iload_n rfl) rfl ?_
        refine zb_go zg_ishl rfl ?_
        refine zb_go zg_ior rfl ?_
        refine zb_go (zg_istore_n (by decide)) rfl ?_
        refine zb_out ?_
        refine kX3_ringersIn_25 ?_
        refine zb_go (zg_iinc 1 (by decide) rfl (by decide)) rfl ?_
        refine zb_end (zg_goto (tgt := 4) (by decide) ?_) rfl
        rw [nI_1, show (1 : Int32) = nI 1 from rfl, z_shl (by omega), z_or, ← e]
        exact ih hk4
  refine kX3_ringersIn_0 ?_
  refine zb_go (zg_iconst 0 (by decide)) rfl ?_
  refine zb_go (zg_istore_n (by decide)) rfl ?_
  refine zb_go (zg_iconst 0 (by decide)) rfl ?_
  refine zb_go (zg_istore_n (by decide)) rfl ?_
  refine zb_out ?_
  exact lp 0 (by omega)
def zor (f : Nat → Nat) : Nat → Nat
  | 0 => 0
  | k + 1 => zor f k ||| f k
theorem zor_bit (f : Nat → Nat) (k i : Nat) : (zor f k).testBit i = decide (∃ j, j < k ∧ (f j).testBit i = true) := by
  induction k with
  | zero => simp [zor]
  | succ k ih =>
    rw [zor, Nat.testBit_or, ih]
    by_cases q : (f k).testBit i = true
    · rw [q, Bool.or_true]
      exact (decide_eq_true ⟨k, by omega, q⟩).symm
    · have q' : (f k).testBit i = false := by simpa using q
      rw [q', Bool.or_false]
      refine decide_eq_decide.mpr ⟨fun ⟨j, hj, hf⟩ => ⟨j, by omega, hf⟩, fun ⟨j, hj, hf⟩ => ⟨j, ?_, hf⟩⟩
      rcases Nat.lt_or_ge j k with z | z
      · exact z
      · exact absurd (by rw [show k = j by omega]; exact hf) q
theorem zor_lt {f : Nat → Nat} {m : Nat} (k : Nat) (h : ∀ j, f j < 2 ^ m) : zor f k < 2 ^ m := by
  induction k with
  | zero => exact Nat.two_pow_pos m
  | succ k ih => exact Nat.or_lt_two_pow ih (h k)
theorem r_X3_ringersAtAll (hR : isRota h a tu tw S B) (ha : a + 2 < n) : zRet K l 4 mX3_ringersAtAll [.ref a] n h (some (.int (nI (zor (fun g => rIn B g 6) 4)))) h := by
  refine zRet.of (by decide) (Nat.le_of_ble_eq_true rfl) (fun Q hQ => ?_)
  have h1 := hR.1
  have lp : ∀ k, k ≤ 4 → zGo K l 4 mX3_ringersAtAll 4 [(0, .ref a), (1, .int (nI (zor (fun g => rIn B g 6) k))), (2, .int (nI k))] [] n h 0 0 Q := by
    refine z_down 4 (fun k hk ih => ?_)
    refine kX3_ringersAtAll_4 ?_
    refine zb_go (zg_iload_n rfl) rfl ?_
    refine zb_go (zg_iconst 4 (by decide)) rfl ?_
    refine zb_br (zg_icmp_ge (tgt := 23) (by decide)) rfl (fun c => ?_) (fun c => ?_)
    · have e : k = 4 := by
        have := (nI_leI (a := 4) (b := k) (by decide) (by omega)).mp c
        omega
      subst e
      refine kX3_ringersAtAll_23 ?_
      refine zb_go (zg_iload_n rfl) rfl ?_
      refine zb_end (zg_ireturn rfl (by rfl) ?_) rfl
      exact hQ
    · have hk4 : k < 4 := Nat.not_le.mp (fun q => c (nI_le q (by omega)))
      refine zb_go (zg_iload_n rfl) rfl ?_
      refine zb_go (zg_aload_n rfl) rfl ?_
      refine zb_go (zg_iload_n rfl) rfl ?_
      refine zb_callv (r_X3_ringersIn hR ha hk4) lX3_65 (by repeat (first | assumption | exact z_up_self _ _ _ | refine (z_up_ne (by first | decide | omega)).trans ?_)) rfl rfl (by first | assumption | decide | omega) (by decide) rfl (Nat.le_of_ble_eq_true rfl) rfl ?_
      refine zb_go zg_ior rfl ?_
      refine zb_go (zg_istore_n (by decide)) rfl ?_
      refine zb_go (zg_iinc 1 (by decide) rfl (by decide)) rfl ?_
      refine zb_end (zg_goto (tgt := 4) (by decide) ?_) rfl
      rw [nI_1, z_or]
      exact ih hk4
  refine kX3_ringersAtAll_0 ?_
  refine zb_go (zg_iconst 0 (by decide)) rfl ?_
  refine zb_go (zg_istore_n (by decide)) rfl ?_
  refine zb_go (zg_iconst 0 (by decide)) rfl ?_
  refine zb_go (zg_istore_n (by decide)) rfl ?_
  refine zb_out ?_
  exact lp 0 (by omega)
theorem zpop_lt (s : Nat) : zpop s < 2 ^ 31 := by have := zpop_le s; omega
theorem zdif_lt {a b : Nat} (ha : a < 64) : zdif a b < 64 := Nat.lt_pow_two_of_testBit (n := 6) _ (fun i hi => by
  rw [zdif_bit, Nat.testBit_lt_two_pow (Nat.lt_of_lt_of_le ha (Nat.pow_le_pow_right (by decide) hi : 2 ^ 6 ≤ 2 ^ i))]; rfl)
theorem r_X3_soundsWithout {s : Nat} (hR : isRota h a tu tw S B) (ha : a + 2 < n) : zRex K l 4 mX3_soundsWithout [.ref a, .int (nI s)] n h (fun v h' => h' = h ∧ zIf (∀ q, q < 4 → S q = -9 ∨ S q = nI (zpop (zdif (rIn B q 6) s))) v) := by
  refine zRex.of (by decide) (Nat.le_of_ble_eq_true rfl) (fun Q hQ => ?_)
  obtain ⟨h1, h2, h3⟩ := id hR
  have lp : ∀ k, k ≤ 4 → (∀ q, q < k → S q = -9 ∨ S q = nI (zpop (zdif (rIn B q 6) s))) → zGo K l 4 mX3_soundsWithout 2 [(0, .ref a), (1, .int (nI s)), (2, .int (nI k))] [] n h 0 0 Q := by
    refine z_down 4 (fun k hk ih hn => ?_)
    refine kX3_soundsWithout_2 ?_
    refine zb_go (zg_iload_n rfl) rfl ?_
    refine zb_go (zg_iconst 4 (by decide)) rfl ?_
    refine zb_br (zg_icmp_ge (tgt := 47) (by decide)) rfl (fun c => ?_) (fun c => ?_)
    · have e : k = 4 := by
        have := (nI_leI (a := 4) (b := k) (by decide) (by omega)).mp c
        omega
      subst e
      refine kX3_soundsWithout_47 ?_
      refine zb_go (zg_iconst 1 (by decide)) rfl ?_
      refine zb_end (zg_ireturn rfl (by rfl) ?_) rfl
      exact hQ _ _ ⟨rfl, Or.inl ⟨hn, rfl⟩⟩
    · have hk4 : k < 4 := Nat.not_le.mp (fun q => c (nI_le q (by omega)))
      have nx : (S k = -9 ∨ S k = nI (zpop (zdif (rIn B k 6) s))) → ∀ q, q < k + 1 → S q = -9 ∨ S q = nI (zpop (zdif (rIn B q 6) s)) := by
        intro hz q hq
        rcases Nat.lt_or_ge q k with z | z
        · exact hn q z
        · rw [show q = k by omega]; exact hz
      refine zb_go (zg_aload_n rfl) rfl ?_
      refine zb_go (zg_getfield fX3_18 (by first | assumption | decide | omega) (by repeat (first | assumption | exact z_up_self _ _ _ | refine (z_up_ne (by first | decide | omega)).trans ?_)) (by rfl)) rfl ?_
      refine zb_go (zg_iload_n rfl) rfl ?_
      refine zb_go (zi_iaload (by first | assumption | decide | omega) (by repeat (first | assumption | exact z_up_self _ _ _ | refine (z_up_ne (by first | decide | omega)).trans ?_)) (by first | assumption | exact zIx.nI (by omega) (by decide) | exact ⟨by decide, by decide⟩)) rfl ?_
      refine zb_go (zg_bipush (-9) (by decide)) rfl ?_
      refine zb_br (zg_icmp_eq (tgt := 41) (by decide)) rfl (fun c1 => ?_) (fun c1 => ?_)
      · refine kX3_soundsWithout_41 ?_
        refine zb_go (zg_iinc 1 (by decide) rfl (by decide)) rfl ?_
        refine zb_end (zg_goto (tgt := 2) (by decide) ?_) rfl
        rw [nI_1]
        exact ih hk4 (nx (Or.inl c1))
      · refine zb_go (zg_aload_n rfl) rfl ?_
        refine zb_go (zg_getfield fX3_18 (by first | assumption | decide | omega) (by repeat (first | assumption | exact z_up_self _ _ _ | refine (z_up_ne (by first | decide | omega)).trans ?_)) (by rfl)) rfl ?_
        refine zb_go (zg_iload_n rfl) rfl ?_
        refine zb_go (zi_iaload (by first | assumption | decide | omega) (by repeat (first | assumption | exact z_up_self _ _ _ | refine (z_up_ne (by first | decide | omega)).trans ?_)) (by first | assumption | exact zIx.nI (by omega) (by decide) | exact ⟨by decide, by decide⟩)) rfl ?_
        refine zb_go (zg_aload_n rfl) rfl ?_
        refine zb_go (zg_iload_n rfl) rfl ?_
        refine zb_callv (r_X3_ringersIn hR ha hk4) lX3_65 (by repeat (first | assumption | exact z_up_self _ _ _ | refine (z_up_ne (by first | decide | omega)).trans ?_)) rfl rfl (by first | assumption | decide | omega) (by decide) rfl (Nat.le_of_ble_eq_true rfl) rfl ?_
        refine zb_go (zg_iload_n rfl) rfl ?_
        refine zb_go (zg_iconst (-1) (by decide)) rfl ?_
        refine zb_go zg_ixor rfl ?_
        refine zb_go zg_iand rfl ?_
        rw [z_andn]
        refine zb_calls (r_bitCount (zdif_lt (rIn_lt B k))) lX3_68 rfl (by decide) rfl (Nat.le_of_ble_eq_true rfl) rfl ?_
        refine zb_br (zg_icmp_eq (tgt := 41) (by decide)) rfl (fun c2 => ?_) (fun c2 => ?_)
        · refine kX3_soundsWithout_41 ?_
          refine zb_go (zg_iinc 1 (by decide) rfl (by decide)) rfl ?_
          refine zb_end (zg_goto (tgt := 2) (by decide) ?_) rfl
          rw [nI_1]
          exact ih hk4 (nx (Or.inr c2))
        · refine zb_go (zg_iconst 0 (by decide)) rfl ?_
          refine zb_end (zg_ireturn rfl (by rfl) ?_) rfl
          exact hQ _ _ ⟨rfl, Or.inr ⟨fun q => (q k hk4).elim c1 c2, rfl⟩⟩
  refine kX3_soundsWithout_0 ?_
  refine zb_go (zg_iconst 0 (by decide)) rfl ?_
  refine zb_go (zg_istore_n (by decide)) rfl ?_
  refine zb_out ?_
  exact lp 0 (by omega) (fun q hq => absurd hq (Nat.not_lt_zero _))
def rWalk (P : zP) (B : Nat → Int32) (w : Nat) : Nat → Nat := zsum (fun r => rT B r 4 * 2 * zdist (pHo P r) w)
theorem r_X3_walk {w : Nat} (hR : isRota h a tu tw S B) (ha : a + 2 < n) (hP : isPar h p P) (hp : p + 5 < n) (ok : okP P) (hw : w < 2 ^ 30) : zRet K l 4 mX3_walk [.ref a, .ref p, .int (nI w)] n h (some (.int (nI (rWalk P B w (pR P))))) h := by
  refine zRet.of (by decide) (Nat.le_of_ble_eq_true rfl) (fun Q hQ => ?_)
  have h1 := hR.1
  have h2 := hP.1
  have k2 := ok.2.1
  have lp : ∀ k, k ≤ pR P → zGo K l 4 mX3_walk 5 [(0, .ref a), (1, .ref p), (2, .int (nI w)), (3, .int (nI (rWalk P B w k))), (4, .int (nI k))] [] n h 0 0 Q := by
    refine z_down _ (fun k hk ih => ?_)
    refine kX3_walk_5 ?_
    refine zb_go (zg_iload rfl) rfl ?_
    refine zb_go (zg_aload_n rfl) rfl ?_
    refine zb_go (zg_getfield fX3_73 (by first | assumption | decide | omega) (by repeat (first | assumption | exact z_up_self _ _ _ | refine (z_up_ne (by first | decide | omega)).trans ?_)) (by rfl)) rfl ?_
    refine zb_br (zg_icmp_ge (tgt := 39) (by decide)) rfl (fun c => ?_) (fun c => ?_)
    · have e : k = pR P := by
        have := (nI_leI (by omega) (by omega)).mp c
        omega
      subst e
      refine kX3_walk_39 ?_
      refine zb_go (zg_iload_n rfl) rfl ?_
      refine zb_end (zg_ireturn rfl (by rfl) ?_) rfl
      exact hQ
    · have hk4 : k < pR P := Nat.not_le.mp (fun q => c (nI_le q (by omega)))
      refine zb_go (zg_iload_n rfl) rfl ?_
      refine zb_go (zg_aload_n rfl) rfl ?_
      refine zb_go (zg_iload rfl) rfl ?_
      refine zb_callv (r_X3_timesOf hR ha (by omega)) lX3_48 (by repeat (first | assumption | exact z_up_self _ _ _ | refine (z_up_ne (by first | decide | omega)).trans ?_)) rfl rfl (by first | assumption | decide | omega) (by decide) rfl (Nat.le_of_ble_eq_true rfl) rfl ?_
      refine zb_go (zg_iconst 2 (by decide)) rfl ?_
      refine zb_go zg_imul rfl ?_
      refine zb_go (zg_aload_n rfl) rfl ?_
      refine zb_go (zg_iload rfl) rfl ?_
      refine zb_go (zg_iload_n rfl) rfl ?_
      refine zb_callv (r_X2_way hP hp ok hk4 hw) lX3_76 (by repeat (first | assumption | exact z_up_self _ _ _ | refine (z_up_ne (by first | decide | omega)).trans ?_)) rfl rfl (by first | assumption | decide | omega) (by decide) rfl (Nat.le_of_ble_eq_true rfl) rfl ?_
      refine zb_go zg_imul rfl ?_
      refine zb_go zg_iadd rfl ?_
      refine zb_go (zg_istore_n (by decide)) rfl ?_
      refine zb_go (zg_iinc 1 (by decide) rfl (by decide)) rfl ?_
      refine zb_end (zg_goto (tgt := 5) (by decide) ?_) rfl
      rw [nI_1, show (2 : Int32) = nI 2 from rfl, pk_mul, pk_mul, nI_add]
      exact ih hk4
  refine kX3_walk_0 ?_
  refine zb_go (zg_iconst 0 (by decide)) rfl ?_
  refine zb_go (zg_istore_n (by decide)) rfl ?_
  refine zb_go (zg_iconst 0 (by decide)) rfl ?_
  refine zb_go (zg_istore (by decide)) rfl ?_
  refine zb_out ?_
  exact lp 0 (by omega)
end
