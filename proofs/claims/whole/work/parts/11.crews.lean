/-! CREWS, and common divisors -/
def sLost (P : zP) (g am s : Nat) : Nat := zpop s - sAble P g am s (pR P)
def zmx (f : Nat → Nat) : Nat → Nat
  | 0 => 0
  | k + 1 => max (zmx f k) (f k)
theorem zmx_le {f : Nat → Nat} {m k : Nat} (h : ∀ i, i < k → f i ≤ m) : zmx f k ≤ m := by
  induction k with
  | zero => exact Nat.zero_le _
  | succ k ih => exact Nat.max_le.mpr ⟨ih (fun i hi => h i (by omega)), h k (by omega)⟩
theorem le_zmx {f : Nat → Nat} {k i : Nat} (h : i < k) : f i ≤ zmx f k := by
  induction k with
  | zero => omega
  | succ k ih =>
    simp only [zmx]
    rcases Nat.lt_or_ge i k with q | q
    · exact Nat.le_trans (ih q) (Nat.le_max_left _ _)
    · rw [show i = k by omega]; exact Nat.le_max_right _ _
def zall (p : Nat → Bool) : Nat → Bool
  | 0 => true
  | k + 1 => zall p k && p k
theorem zall_iff {p : Nat → Bool} {k : Nat} : zall p k = true ↔ ∀ i, i < k → p i = true := by
  induction k with
  | zero => simp [zall]
  | succ k ih =>
    rw [zall, Bool.and_eq_true, ih]
    constructor
    · intro h i hi
      rcases Nat.lt_or_ge i k with q | q
      · exact h.1 i q
      · rw [show i = k by omega]; exact h.2
    · intro h
      exact ⟨fun i hi => h i (by omega), h k (by omega)⟩
section
variable {K : zK} {l : Launch} {n p r g am s : Nat} {h : zH} {x y : Int32} {P : zP}
theorem sAble_le (P : zP) (g am s : Nat) (ok : okP P) : sAble P g am s (pR P) ≤ 6 := Nat.le_trans (zcnt_le _ _) ok.2.1
theorem r_X0_lostIn (hP : isPar h p P) (hp : p + 5 < n) (ok : okP P) (hg : g < 2 ^ 31) (ha : am < 2 ^ 31) (hs : s < 64) : zRet K l 3 mX0_lostIn [.ref p, .int (nI g), .int (nI am), .int (nI s)] n h (some (.int (nI (zpop s) - nI (sAble P g am s (pR P))))) h := by
  refine zRet.of (by decide) (Nat.le_of_ble_eq_true rfl) (fun Q hQ => ?_)
  have h1 := hP.1
  refine kX0_lostIn_0 ?_
  refine zb_go (zg_iload_n rfl) rfl ?_
  refine zb_calls (r_bitCount hs) lX0_27 rfl (by decide) rfl (Nat.le_of_ble_eq_true rfl) rfl ?_
  refine zb_go (zg_aload_n rfl) rfl ?_
  refine zb_go (zg_iload_n rfl) rfl ?_
  refine zb_go (zg_iload_n rfl) rfl ?_
  refine zb_go (zg_iload_n rfl) rfl ?_
  refine zb_callv (r_X2_ableOf hP hp ok hg ha (by omega)) lX0_33 (by repeat (first | assumption | exact z_up_self _ _ _ | refine (z_up_ne (by first | decide | omega)).trans ?_)) rfl rfl (by first | assumption | decide | omega) (by decide) rfl (Nat.le_of_ble_eq_true rfl) rfl ?_
  refine zb_go zg_isub rfl ?_
  refine zb_end (zg_ireturn rfl (by rfl) ?_) rfl
  exact hQ
theorem z_lost1 {a b c : Nat} (ha : a < 2 ^ 30) (hb : b < 2 ^ 30) (hc : c < 2 ^ 30) : (if nI c < nI a - nI b then nI a - nI b else nI c) = nI (max c (a - b)) := by
  rcases Nat.lt_or_ge a b with q | q
  · have h1 := pk_sneg hb q
    have h2 : ¬ nI c < nI a - nI b := fun z => absurd (Int32.lt_trans z h1) (nI_pos (by omega))
    rw [if_neg h2, show a - b = 0 by omega, Nat.max_eq_left (Nat.zero_le _)]
  · rw [pk_sub q]
    rcases Nat.lt_or_ge c (a - b) with z | z
    · rw [if_pos (nI_lt z (by omega)), Nat.max_eq_right (by omega)]
    · rw [if_neg (nI_nlt z (by omega)), Nat.max_eq_left z]
theorem z_lost2 {a b : Nat} (ha : a < 2 ^ 30) (hb : b < 2 ^ 30) : nI a - nI b ≤ 0 ↔ a - b = 0 := by
  rcases Nat.lt_or_ge a b with q | q
  · have h1 := pk_sneg hb q
    exact ⟨fun _ => by omega, fun _ => Int32.le_of_lt h1⟩
  · rw [pk_sub q]
    exact ⟨fun z => by
      have := (nI_leI (b := 0) (by omega) (by omega)).mp z
      omega, fun z => by rw [z]; exact Int32.le_refl _⟩
theorem pW_pow (ok : okP P) (hg : g < pH P) : 2 ^ pW P g ≤ 8 := Nat.pow_le_pow_right (by decide) (ok.2.2.2.2.2.1 g hg).2
theorem r_X0_most (hP : isPar h p P) (hp : p + 5 < n) (ok : okP P) (hg : g < pH P) : zRet K l 4 mX0_most [.ref p, .int (nI g)] n h (some (.int (nI (pW P g) - nI (zmx (sLost P g 63) (2 ^ pW P g))))) h := by
  refine zRet.of (by decide) (Nat.le_of_ble_eq_true rfl) (fun Q hQ => ?_)
  obtain ⟨h1, ⟨f, h2, hf⟩, -⟩ := id hP
  have k1 := ok.1
  have hw := ok.2.2.2.2.2.1 g hg
  have hp2 := pW_pow ok hg
  have hz : ∀ k, zmx (sLost P g 63) k ≤ 6 := fun k => zmx_le (fun i _ => Nat.le_trans (Nat.sub_le _ _) (zpop_le i))
  have lp : ∀ k, k ≤ 2 ^ pW P g → 1 ≤ k → zGo K l 4 mX0_most 4 [(0, .ref p), (1, .int (nI g)), (2, .int (nI (zmx (sLost P g 63) k))), (3, .int (nI k))] [] n h 0 0 Q := by
    refine z_down _ (fun k hk ih h1k => ?_)
    refine kX0_most_4 ?_
    refine zb_go (zg_iload_n rfl) rfl ?_
    refine zb_go (zg_iconst 1 (by decide)) rfl ?_
    refine zb_go (zg_aload_n rfl) rfl ?_
    refine zb_go (zg_getfield fX0_9 (by first | assumption | decide | omega) (by repeat (first | assumption | exact z_up_self _ _ _ | refine (z_up_ne (by first | decide | omega)).trans ?_)) (by rfl)) rfl ?_
    refine zb_go (zg_iload_n rfl) rfl ?_
    refine zb_go (zi_iaload (by first | assumption | decide | omega) (by repeat (first | assumption | exact z_up_self _ _ _ | refine (z_up_ne (by first | decide | omega)).trans ?_)) (by first | assumption | exact zIx.nI (by omega) (by decide) | exact ⟨by decide, by decide⟩)) rfl ?_
    refine zb_go zg_ishl rfl ?_
    rw [hf g hg, show (1 : Int32) = nI 1 from rfl, z_shl (by omega), Nat.shiftLeft_eq, Nat.one_mul]
    refine zb_br (zg_icmp_ge (tgt := 35) (by decide)) rfl (fun c => ?_) (fun c => ?_)
    · have e : k = 2 ^ pW P g := by
        have := (nI_leI (by omega) (by omega)).mp c
        omega
      subst e
      refine kX0_most_35 ?_
      refine zb_go (zg_aload_n rfl) rfl ?_
      refine zb_go (zg_getfield fX0_9 (by first | assumption | decide | omega) (by repeat (first | assumption | exact z_up_self _ _ _ | refine (z_up_ne (by first | decide | omega)).trans ?_)) (by rfl)) rfl ?_
      refine zb_go (zg_iload_n rfl) rfl ?_
      refine zb_go (zi_iaload (by first | assumption | decide | omega) (by repeat (first | assumption | exact z_up_self _ _ _ | refine (z_up_ne (by first | decide | omega)).trans ?_)) (by first | assumption | exact zIx.nI (by omega) (by decide) | exact ⟨by decide, by decide⟩)) rfl ?_
      refine zb_go (zg_iload_n rfl) rfl ?_
      refine zb_go zg_isub rfl ?_
      refine zb_end (zg_ireturn rfl (by rfl) ?_) rfl
      rw [hf g hg]
      exact hQ
    · have hk4 : k < 2 ^ pW P g := Nat.not_le.mp (fun q => c (nI_le q (by omega)))
      have hz1 := hz k
      refine zb_go (zg_iload_n rfl) rfl ?_
      refine zb_go (zg_aload_n rfl) rfl ?_
      refine zb_go (zg_iload_n rfl) rfl ?_
      refine zb_go (zg_bipush 63 (by decide)) rfl ?_
      refine zb_go (zg_iload_n rfl) rfl ?_
      refine zb_calls (r_X0_lostIn (am := 63) hP hp ok (by omega) (by omega) (by omega)) lX0_15 rfl (by decide) rfl (Nat.le_of_ble_eq_true rfl) rfl ?_
      refine zb_go (zg_mmax wlX0_21 (by decide) (Nat.le_of_ble_eq_true rfl)) rfl ?_
      refine zb_go (zg_istore_n (by decide)) rfl ?_
      refine zb_go (zg_iinc 1 (by decide) rfl (by decide)) rfl ?_
      refine zb_end (zg_goto (tgt := 4) (by decide) ?_) rfl
      rw [nI_1, z_lost1 (by have := zpop_le k; omega) (by have := sAble_le P g 63 k ok; omega) (by omega)]
      exact ih hk4 (by omega)
  refine kX0_most_0 ?_
  refine zb_go (zg_iconst 0 (by decide)) rfl ?_
  refine zb_go (zg_istore_n (by decide)) rfl ?_
  refine zb_go (zg_iconst 1 (by decide)) rfl ?_
  refine zb_go (zg_istore_n (by decide)) rfl ?_
  refine zb_out ?_
  have e1 : (0 : Int32) = nI (zmx (sLost P g 63) 1) := by
    have : zmx (sLost P g 63) 1 = 0 := by
      have : zpop 0 = 0 := by decide
      simp [zmx, sLost, this]
    rw [this]; rfl
  rw [e1]
  exact lp 1 (Nat.one_le_two_pow) (by omega)
theorem r_X0_firstBar (hP : isPar h p P) (hp : p + 5 < n) (ok : okP P) (hg : g < pH P) (ha : am < 2 ^ 31) : zRex K l 4 mX0_firstBar [.ref p, .int (nI g), .int (nI am)] n h (fun v h' => h' = h ∧ ((∃ s, 1 ≤ s ∧ s < 2 ^ pW P g ∧ sLost P g am s ≠ 0 ∧ (∀ t, t < s → sLost P g am t = 0) ∧ v = some (.int (nI s))) ∨ ((∀ t, t < 2 ^ pW P g → sLost P g am t = 0) ∧ v = some (.int (-9))))) := by
  refine zRex.of (by decide) (Nat.le_of_ble_eq_true rfl) (fun Q hQ => ?_)
  obtain ⟨h1, ⟨f, h2, hf⟩, -⟩ := id hP
  have k1 := ok.1
  have hw := ok.2.2.2.2.2.1 g hg
  have hp2 := pW_pow ok hg
  have lp : ∀ k, k ≤ 2 ^ pW P g → 1 ≤ k → (∀ t, t < k → sLost P g am t = 0) → zGo K l 4 mX0_firstBar 2 [(0, .ref p), (1, .int (nI g)), (2, .int (nI am)), (3, .int (nI k))] [] n h 0 0 Q := by
    refine z_down _ (fun k hk ih h1k hn => ?_)
    refine kX0_firstBar_2 ?_
    refine zb_go (zg_iload_n rfl) rfl ?_
    refine zb_go (zg_iconst 1 (by decide)) rfl ?_
    refine zb_go (zg_aload_n rfl) rfl ?_
    refine zb_go (zg_getfield fX0_9 (by first | assumption | decide | omega) (by repeat (first | assumption | exact z_up_self _ _ _ | refine (z_up_ne (by first | decide | omega)).trans ?_)) (by rfl)) rfl ?_
    refine zb_go (zg_iload_n rfl) rfl ?_
    refine zb_go (zi_iaload (by first | assumption | decide | omega) (by repeat (first | assumption | exact z_up_self _ _ _ | refine (z_up_ne (by first | decide | omega)).trans ?_)) (by first | assumption | exact zIx.nI (by omega) (by decide) | exact ⟨by decide, by decide⟩)) rfl ?_
    refine zb_go zg_ishl rfl ?_
    rw [hf g hg, show (1 : Int32) = nI 1 from rfl, z_shl (by omega), Nat.shiftLeft_eq, Nat.one_mul]
    refine zb_br (zg_icmp_ge (tgt := 32) (by decide)) rfl (fun c => ?_) (fun c => ?_)
    · have e : k = 2 ^ pW P g := by
        have := (nI_leI (by omega) (by omega)).mp c
        omega
      subst e
      refine kX0_firstBar_32 ?_
      refine zb_go (zg_bipush (-9) (by decide)) rfl ?_
      refine zb_end (zg_ireturn rfl (by rfl) ?_) rfl
      exact hQ _ _ ⟨rfl, Or.inr ⟨hn, rfl⟩⟩
    · have hk4 : k < 2 ^ pW P g := Nat.not_le.mp (fun q => c (nI_le q (by omega)))
      have z2 := z_lost2 (a := zpop k) (b := sAble P g am k (pR P)) (by have := zpop_le k; omega) (by have := sAble_le P g am k ok; omega)
      refine zb_go (zg_aload_n rfl) rfl ?_
      refine zb_go (zg_iload_n rfl) rfl ?_
      refine zb_go (zg_iload_n rfl) rfl ?_
      refine zb_go (zg_iload_n rfl) rfl ?_
      refine zb_calls (r_X0_lostIn (am := am) hP hp ok (by omega) ha (by omega)) lX0_15 rfl (by decide) rfl (Nat.le_of_ble_eq_true rfl) rfl ?_
      refine zb_br (zg_if_le (tgt := 26) (by decide)) rfl (fun c1 => ?_) (fun c1 => ?_)
      · have c1 := z2.mp c1
        refine kX0_firstBar_26 ?_
        refine zb_go (zg_iinc 1 (by decide) rfl (by decide)) rfl ?_
        refine zb_end (zg_goto (tgt := 2) (by decide) ?_) rfl
        rw [nI_1]
        refine ih hk4 (by omega) (fun t ht => ?_)
        rcases Nat.lt_or_ge t k with q | q
        · exact hn t q
        · rw [show t = k by omega]; exact c1
      · refine zb_go (zg_iload_n rfl) rfl ?_
        refine zb_end (zg_ireturn rfl (by rfl) ?_) rfl
        exact hQ _ _ ⟨rfl, Or.inl ⟨k, h1k, hk4, fun q => c1 (z2.mpr q), hn, rfl⟩⟩
  refine kX0_firstBar_0 ?_
  refine zb_go (zg_iconst 1 (by decide)) rfl ?_
  refine zb_go (zg_istore_n (by decide)) rfl ?_
  refine zb_out ?_
  refine lp 1 (Nat.one_le_two_pow) (by omega) (fun t ht => ?_)
  have : zpop 0 = 0 := by decide
  rw [show t = 0 by omega]
  simp [sLost, this]
/-- whether all bells of an hour can be rung by these ringers, by its bars -/
def sFull (P : zP) (g w : Nat) : Bool := zall (fun s => decide (sLost P g w s = 0)) (2 ^ pW P g)
def sOdds (P : zP) (g : Nat) : Nat → Nat := zsum (fun w => if sFull P g w then sWt P w (pR P) else 0)
theorem zprod_le {f : Nat → Nat} {m : Nat} : ∀ {k : Nat}, (∀ i, i < k → f i ≤ m) → zprod f k ≤ m ^ k
  | 0, _ => by simp [zprod]
  | k + 1, h => by
    rw [zprod, Nat.pow_succ]
    exact Nat.mul_le_mul (zprod_le (fun i hi => h i (by omega))) (h k (by omega))
theorem sWt_le (ok : okP P) (w : Nat) {k : Nat} (hk : k ≤ pR P) : sWt P w k ≤ 10 ^ k := zprod_le (fun i hi => by
  have := (ok.2.2.2.2.2.2 i (by omega)).2.2.2
  split <;> omega)
theorem r_X0_fullWeight (hP : isPar h p P) (hp : p + 5 < n) (ok : okP P) (hg : g < pH P) : zRet K l 5 mX0_fullWeight [.ref p, .int (nI g)] n h (some (.int (nI (sOdds P g (2 ^ pR P))))) h := by
  refine zRet.of (by decide) (Nat.le_of_ble_eq_true rfl) (fun Q hQ => ?_)
  obtain ⟨h1, -⟩ := id hP
  have k1 := ok.1
  have k2 := ok.2.1
  have hw := ok.2.2.2.2.2.1 g hg
  have hp2 : 2 ^ pR P ≤ 64 := Nat.pow_le_pow_right (by decide) k2
  have lp : ∀ k, k ≤ 2 ^ pR P → zGo K l 5 mX0_fullWeight 4 [(0, .ref p), (1, .int (nI g)), (2, .int (nI (sOdds P g k))), (3, .int (nI k))] [] n h 0 0 Q := by
    refine z_down _ (fun k hk ih => ?_)
    refine kX0_fullWeight_4 ?_
    refine zb_go (zg_iload_n rfl) rfl ?_
    refine zb_go (zg_iconst 1 (by decide)) rfl ?_
    refine zb_go (zg_aload_n rfl) rfl ?_
    refine zb_go (zg_getfield fX0_37 (by first | assumption | decide | omega) (by repeat (first | assumption | exact z_up_self _ _ _ | refine (z_up_ne (by first | decide | omega)).trans ?_)) (by rfl)) rfl ?_
    refine zb_go zg_ishl rfl ?_
    rw [show (1 : Int32) = nI 1 from rfl, z_shl (by omega), Nat.shiftLeft_eq, Nat.one_mul]
    refine zb_br (zg_icmp_ge (tgt := 48) (by decide)) rfl (fun c => ?_) (fun c => ?_)
    · have e : k = 2 ^ pR P := by
        have := (nI_leI (by omega) (by omega)).mp c
        omega
      subst e
      refine kX0_fullWeight_48 ?_
      refine zb_go (zg_iload_n rfl) rfl ?_
      refine zb_end (zg_ireturn rfl (by rfl) ?_) rfl
      exact hQ
    · have hk4 : k < 2 ^ pR P := Nat.not_le.mp (fun q => c (nI_le q (by omega)))
      have hwt : sWt P k (pR P) ≤ 1000000 := Nat.le_trans (sWt_le ok k (Nat.le_refl _)) (Nat.pow_le_pow_right (by decide) k2 : 10 ^ pR P ≤ 10 ^ 6)
      refine zb_go (zg_aload_n rfl) rfl ?_
      refine zb_go (zg_iload_n rfl) rfl ?_
      refine zb_callv (r_X2_weightOf hP hp ok (by omega)) lX0_41 (by repeat (first | assumption | exact z_up_self _ _ _ | refine (z_up_ne (by first | decide | omega)).trans ?_)) rfl rfl (by first | assumption | decide | omega) (by decide) rfl (Nat.le_of_ble_eq_true rfl) rfl ?_
      refine zb_go (zg_istore (by decide)) rfl ?_
      refine zb_go (zg_iload rfl) rfl ?_
      refine zb_br (zg_if_le (tgt := 42) (by decide)) rfl (fun c1 => ?_) (fun c1 => ?_)
      · have c1 := (nI_leI (b := 0) (by omega) (by omega)).mp c1
        have e : sOdds P g (k + 1) = sOdds P g k := by
          simp only [sOdds, zsum]
          split <;> omega
        refine kX0_fullWeight_42 ?_
        refine zb_go (zg_iinc 1 (by decide) rfl (by decide)) rfl ?_
        refine zb_end (zg_goto (tgt := 4) (by decide) ?_) rfl
        rw [nI_1]
        rw [← e]
        refine zg_keep [0, 1, 2, 3] ?_
        exact ih hk4
      · refine zb_go (zg_aload_n rfl) rfl ?_
        refine zb_go (zg_iload_n rfl) rfl ?_
        refine zb_go (zg_iload_n rfl) rfl ?_
        refine zb_callsx (r_X0_firstBar (am := k) hP hp ok hg (by omega)) lX0_44 rfl (by decide) rfl (Nat.le_of_ble_eq_true rfl) rfl ?_
        rintro v h' ⟨rfl, hv⟩
        rcases hv with ⟨s, hs1, hs2, hs3, -, rfl⟩ | ⟨hn, rfl⟩
        · have hp3 := pW_pow ok hg
          refine zb_go (zg_bipush (-9) (by decide)) rfl ?_
          refine zb_br (zg_icmp_ne (tgt := 42) (by decide)) rfl (fun c2 => ?_) (fun c2 => ?_)
          · have hf : sFull P g k = false := by
              cases q : sFull P g k with
              | false => rfl
              | true => exact absurd (of_decide_eq_true (zall_iff.mp q s hs2)) hs3
            have e : sOdds P g (k + 1) = sOdds P g k := by
              simp only [sOdds, zsum, hf]
              simp
            refine kX0_fullWeight_42 ?_
            refine zb_go (zg_iinc 1 (by decide) rfl (by decide)) rfl ?_
            refine zb_end (zg_goto (tgt := 4) (by decide) ?_) rfl
            rw [nI_1]
            rw [← e]
            refine zg_keep [0, 1, 2, 3] ?_
            exact ih hk4
          · exact absurd (c2 : nI s = -9) (fun q => nI_pos (n := s) (by omega) (by rw [q]; decide))
        · refine zb_go (zg_bipush (-9) (by decide)) rfl ?_
          refine zb_br (zg_icmp_ne (tgt := 42) (by decide)) rfl (fun c2 => ?_) (fun c2 => ?_)
          · exact absurd rfl c2
          · have hf : sFull P g k = true := zall_iff.mpr (fun i hi => decide_eq_true (hn i hi))
            have e : sOdds P g (k + 1) = sOdds P g k + sWt P k (pR P) := by
              simp only [sOdds, zsum, hf]
              simp
            refine zb_go (zg_iload_n rfl) rfl ?_
            refine zb_go (zg_iload rfl) rfl ?_
            refine zb_go zg_iadd rfl ?_
            refine zb_go (zg_istore_n (by decide)) rfl ?_
            refine zb_out ?_
            refine kX0_fullWeight_42 ?_
            refine zb_go (zg_iinc 1 (by decide) rfl (by decide)) rfl ?_
            refine zb_end (zg_goto (tgt := 4) (by decide) ?_) rfl
            rw [nI_1, nI_add, ← e]
            refine zg_keep [0, 1, 2, 3] ?_
            exact ih hk4
  refine kX0_fullWeight_0 ?_
  refine zb_go (zg_iconst 0 (by decide)) rfl ?_
  refine zb_go (zg_istore_n (by decide)) rfl ?_
  refine zb_go (zg_iconst 0 (by decide)) rfl ?_
  refine zb_go (zg_istore_n (by decide)) rfl ?_
  refine zb_out ?_
  exact lp 0 (Nat.zero_le _)
theorem z_remN {a b : Nat} (ha : a < 2 ^ 31) (h0 : 0 < b) (hb : b < 2 ^ 31) : nI a - nI a / nI b * nI b = nI (a % b) := pk_rem ha h0 hb
theorem z_half {a b : Nat} (hb : 0 < b) (hab : b ≤ a) : 2 * (a % b) < a := by
  have h1 := Nat.mod_lt a hb
  have h2 := Nat.div_add_mod a b
  have h3 : 1 ≤ a / b := (Nat.one_le_div_iff hb).mpr hab
  have h4 : b * 1 ≤ b * (a / b) := Nat.mul_le_mul_left b h3
  omega
theorem r_X5_commonDivisor {a b : Nat} (ha : a ≤ 100000000) (hb : 0 < b) (hb2 : b ≤ 100000000) : zRet K l 0 mX5_commonDivisor [.int (nI a), .int (nI b)] n h (some (.int (nI (Nat.gcd a b)))) h := by
  refine zRet.of (by decide) (Nat.le_of_ble_eq_true rfl) (fun Q hQ => ?_)
  have lp : ∀ k, k ≤ 64 → ∀ u v, u ≤ 100000000 → v ≤ 100000000 → 0 < u + v → Nat.gcd u v = Nat.gcd a b → (k = 0 ∨ (v ≤ u ∧ u * v * 2 ^ (k - 1) ≤ 100000000 * 100000000)) → zGo K l 0 mX5_commonDivisor 7 [(0, .int (nI a)), (1, .int (nI b)), (2, .int (nI u)), (3, .int (nI v)), (4, .int (nI k))] [] n h 0 0 Q := by
    refine z_down 64 (fun k hk ih u v hu hv huv hg hinv => ?_)
    have fin : v = 0 → zGo K l 0 mX5_commonDivisor 34 [(0, .int (nI a)), (1, .int (nI b)), (2, .int (nI u)), (3, .int (nI v)), (4, .int (nI k))] [] n h 0 0 Q := by
      intro hv0
      rw [hv0, Nat.gcd_zero_right] at hg
      rw [← hg] at hQ
      refine kX5_commonDivisor_34 ?_
      refine zb_go (zg_iload_n rfl) rfl ?_
      refine zb_end (zg_ireturn rfl (by rfl) ?_) rfl
      exact hQ
    refine kX5_commonDivisor_7 ?_
    refine zb_go (zg_iload rfl) rfl ?_
    refine zb_go (zg_bipush 64 (by decide)) rfl ?_
    refine zb_br (zg_icmp_ge (tgt := 34) (by decide)) rfl (fun c => ?_) (fun c => ?_)
    · have e : k = 64 := by
        have := (nI_leI (a := 64) (b := k) (by decide) (by omega)).mp c
        omega
      subst e
      refine fin ?_
      rcases hinv with q | ⟨q1, q2⟩
      · omega
      · rcases Nat.eq_zero_or_pos v with z | z
        · exact z
        · exfalso
          have : 1 * 1 ≤ u * v := Nat.mul_le_mul (by omega) z
          have h3 : 1 * 2 ^ 63 ≤ u * v * 2 ^ 63 := Nat.mul_le_mul_right _ (by omega)
          have h4 : u * v * 2 ^ 63 ≤ 100000000 * 100000000 := q2
          omega
    · have hk4 : k < 64 := Nat.not_le.mp (fun q => c (nI_le q (by omega)))
      refine zb_go (zg_iload_n rfl) rfl ?_
      refine zb_br (zg_if_eq (tgt := 34) (by decide)) rfl (fun c1 => ?_) (fun c1 => ?_)
      · exact fin ((nI_eq (b := 0) (by omega) (by omega)).mp c1)
      · have c1 : ¬ v = 0 := fun q => c1 (by rw [q]; rfl)
        refine zb_go (zg_iload_n rfl) rfl ?_
        refine zb_go (zg_iload_n rfl) rfl ?_
        refine zb_go (zg_irem (nI_ne0 (by omega) (by omega))) rfl ?_
        refine zb_go (zg_istore (by decide)) rfl ?_
        refine zb_go (zg_iload_n rfl) rfl ?_
        refine zb_go (zg_istore_n (by decide)) rfl ?_
        refine zb_go (zg_iload rfl) rfl ?_
        refine zb_go (zg_istore_n (by decide)) rfl ?_
        refine zb_go (zg_iinc 1 (by decide) rfl (by decide)) rfl ?_
        refine zb_end (zg_goto (tgt := 7) (by decide) ?_) rfl
        rw [z_remN (by omega) (by omega) (by omega), nI_1]
        refine zg_keep [0, 1, 2, 3, 4] ?_
        have h5 := Nat.mod_lt u (show 0 < v by omega)
        refine ih hk4 v (u % v) hv (by omega) (by omega) (by rw [Nat.gcd_comm, ← Nat.gcd_rec, Nat.gcd_comm]; exact hg) (Or.inr ⟨by omega, ?_⟩)
        rcases hinv with q | ⟨q1, q2⟩
        · subst q
          show v * (u % v) * 1 ≤ _
          rw [Nat.mul_one]
          exact Nat.mul_le_mul hv (by omega)
        · rw [Nat.add_sub_cancel]
          rcases Nat.eq_zero_or_pos k with z | z
          · subst z
            show v * (u % v) * 1 ≤ _
            rw [Nat.mul_one]
            exact Nat.mul_le_mul hv (by omega)
          · have h6 := z_half (show 0 < v by omega) q1
            have h7 : 2 ^ k = 2 * 2 ^ (k - 1) := by rw [← Nat.pow_succ']; congr 1; omega
            rw [h7]
            refine Nat.le_trans ?_ q2
            have h8 : v * (2 * (u % v)) ≤ v * u := Nat.mul_le_mul_left v (by omega)
            calc v * (u % v) * (2 * 2 ^ (k - 1)) = v * (2 * (u % v)) * 2 ^ (k - 1) := by
                  rw [← Nat.mul_assoc, Nat.mul_assoc v (u % v) 2, Nat.mul_comm (u % v) 2]
              _ ≤ v * u * 2 ^ (k - 1) := Nat.mul_le_mul_right _ h8
              _ = u * v * 2 ^ (k - 1) := by rw [Nat.mul_comm v u]
  refine kX5_commonDivisor_0 ?_
  refine zb_go (zg_iload_n rfl) rfl ?_
  refine zb_go (zg_istore_n (by decide)) rfl ?_
  refine zb_go (zg_iload_n rfl) rfl ?_
  refine zb_go (zg_istore_n (by decide)) rfl ?_
  refine zb_go (zg_iconst 0 (by decide)) rfl ?_
  refine zb_go (zg_istore (by decide)) rfl ?_
  refine zb_out ?_
  exact lp 0 (by omega) a b ha hb2 (by omega) rfl (Or.inl rfl)
end
