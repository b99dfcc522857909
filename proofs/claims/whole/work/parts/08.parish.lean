/-! PARISH: hours, ringers, tower, times, rest; wants, homes, bells, busy, ills -/
abbrev zP : Type := Nat × Nat × Nat × Nat × Nat × (Nat → Nat) × (Nat → Nat) × (Nat → Nat) × (Nat → Nat) × (Nat → Nat)
def pH (P : zP) : Nat := P.1
def pR (P : zP) : Nat := P.2.1
def pTw (P : zP) : Nat := P.2.2.1
def pTi (P : zP) : Nat := P.2.2.2.1
def pRe (P : zP) : Nat := P.2.2.2.2.1
def pW (P : zP) : Nat → Nat := P.2.2.2.2.2.1
def pHo (P : zP) : Nat → Nat := P.2.2.2.2.2.2.1
def pBe (P : zP) : Nat → Nat := P.2.2.2.2.2.2.2.1
def pBu (P : zP) : Nat → Nat := P.2.2.2.2.2.2.2.2.1
def pIl (P : zP) : Nat → Nat := P.2.2.2.2.2.2.2.2.2
/-- as the document bounds them -/
def okP (P : zP) : Prop := pH P ≤ 4 ∧ pR P ≤ 6 ∧ pTw P ≤ 60 ∧ (1 ≤ pTi P ∧ pTi P ≤ 4) ∧ pRe P ≤ 3 ∧ (∀ i, i < pH P → 1 ≤ pW P i ∧ pW P i ≤ 3) ∧ ∀ i, i < pR P → pHo P i ≤ 60 ∧ pBe P i ≤ 7 ∧ pBu P i ≤ 15 ∧ pIl P i ≤ 9
def isPar (h : zH) (p : Nat) (P : zP) : Prop :=
  h p = .inr (1, [.int (nI (pH P)), .int (nI (pR P)), .int (nI (pTw P)), .int (nI (pTi P)), .int (nI (pRe P)), .ref (p + 1), .ref (p + 2), .ref (p + 3), .ref (p + 4), .ref (p + 5)]) ∧
  (∃ f, h (p + 1) = .inl (0, 4, .inl f) ∧ ∀ i, i < pH P → f i = nI (pW P i)) ∧ (∃ f, h (p + 2) = .inl (0, 6, .inl f) ∧ ∀ i, i < pR P → f i = nI (pHo P i)) ∧ (∃ f, h (p + 3) = .inl (0, 6, .inl f) ∧ ∀ i, i < pR P → f i = nI (pBe P i)) ∧
  (∃ f, h (p + 4) = .inl (0, 6, .inl f) ∧ ∀ i, i < pR P → f i = nI (pBu P i)) ∧ (∃ f, h (p + 5) = .inl (0, 6, .inl f) ∧ ∀ i, i < pR P → f i = nI (pIl P i))
section
variable {K : zK} {l : Launch} {n p r g b : Nat} {h : zH} {P : zP} {x y z : Int32}
theorem r_X2_hasHour (hP : isPar h p P) (hp : p + 5 < n) : zRet K l 0 mX2_hasHour [.ref p, .int x] n h (some (.int (if 0 ≤ x ∧ x < nI (pH P) then 1 else 0))) h := by
  refine zRet.of (by decide) (Nat.le_of_ble_eq_true rfl) (fun Q hQ => ?_)
  have h1 := hP.1
  refine kX2_hasHour_0 ?_
  refine zb_go (zg_iload_n rfl) rfl ?_
  refine zb_br (zg_if_lt (tgt := 16) (by decide)) rfl (fun c0 => ?_) (fun c0 => ?_)
  · rw [if_neg (fun q => Int32.not_le.mpr c0 q.1)] at hQ
    refine kX2_hasHour_16 ?_
    refine zb_go (zg_iconst 0 (by decide)) rfl ?_
    refine zb_out ?_
    refine kX2_hasHour_17 ?_
    refine zb_end (zg_ireturn rfl (by rfl) ?_) rfl
    exact hQ
  · refine zb_go (zg_iload_n rfl) rfl ?_
    refine zb_go (zg_aload_n rfl) rfl ?_
    refine zb_go (zg_getfield fX2_9 (by first | assumption | decide | omega) (by repeat (first | assumption | exact z_up_self _ _ _ | refine (z_up_ne (by first | decide | omega)).trans ?_)) (by rfl)) rfl ?_
    refine zb_br (zg_icmp_ge (tgt := 16) (by decide)) rfl (fun c => ?_) (fun c => ?_)
    · rw [if_neg (fun q => Int32.not_le.mpr q.2 c)] at hQ
      refine kX2_hasHour_16 ?_
      refine zb_go (zg_iconst 0 (by decide)) rfl ?_
      refine zb_out ?_
      refine kX2_hasHour_17 ?_
      refine zb_end (zg_ireturn rfl (by rfl) ?_) rfl
      exact hQ
    · rw [if_pos ⟨Int32.not_lt.mp c0, Int32.not_le.mp c⟩] at hQ
      refine zb_go (zg_iconst 1 (by decide)) rfl ?_
      refine zb_end (zg_goto (tgt := 17) (by decide) ?_) rfl
      refine kX2_hasHour_17 ?_
      refine zb_end (zg_ireturn rfl (by rfl) ?_) rfl
      exact hQ
theorem r_X2_hasRinger (hP : isPar h p P) (hp : p + 5 < n) : zRet K l 0 mX2_hasRinger [.ref p, .int x] n h (some (.int (if 0 ≤ x ∧ x < nI (pR P) then 1 else 0))) h := by
  refine zRet.of (by decide) (Nat.le_of_ble_eq_true rfl) (fun Q hQ => ?_)
  have h1 := hP.1
  refine kX2_hasRinger_0 ?_
  refine zb_go (zg_iload_n rfl) rfl ?_
  refine zb_br (zg_if_lt (tgt := 16) (by decide)) rfl (fun c0 => ?_) (fun c0 => ?_)
  · rw [if_neg (fun q => Int32.not_le.mpr c0 q.1)] at hQ
    refine kX2_hasRinger_16 ?_
    refine zb_go (zg_iconst 0 (by decide)) rfl ?_
    refine zb_out ?_
    refine kX2_hasRinger_17 ?_
    refine zb_end (zg_ireturn rfl (by rfl) ?_) rfl
    exact hQ
  · refine zb_go (zg_iload_n rfl) rfl ?_
    refine zb_go (zg_aload_n rfl) rfl ?_
    refine zb_go (zg_getfield fX2_15 (by first | assumption | decide | omega) (by repeat (first | assumption | exact z_up_self _ _ _ | refine (z_up_ne (by first | decide | omega)).trans ?_)) (by rfl)) rfl ?_
    refine zb_br (zg_icmp_ge (tgt := 16) (by decide)) rfl (fun c => ?_) (fun c => ?_)
    · rw [if_neg (fun q => Int32.not_le.mpr q.2 c)] at hQ
      refine kX2_hasRinger_16 ?_
      refine zb_go (zg_iconst 0 (by decide)) rfl ?_
      refine zb_out ?_
      refine kX2_hasRinger_17 ?_
      refine zb_end (zg_ireturn rfl (by rfl) ?_) rfl
      exact hQ
    · rw [if_pos ⟨Int32.not_lt.mp c0, Int32.not_le.mp c⟩] at hQ
      refine zb_go (zg_iconst 1 (by decide)) rfl ?_
      refine zb_end (zg_goto (tgt := 17) (by decide) ?_) rfl
      refine kX2_hasRinger_17 ?_
      refine zb_end (zg_ireturn rfl (by rfl) ?_) rfl
      exact hQ
/-- an int that is a number below N -/
theorem z_isIx {N : Nat} (hN : N < 2 ^ 31) (h : 0 ≤ x ∧ x < nI N) : ∃ k, k < N ∧ x = nI k := by
  obtain ⟨j, hj, rfl⟩ := nI_of (Int32.not_lt.mpr h.1)
  exact ⟨j, (nI_ltI hj hN).mp h.2, rfl⟩
theorem z_isIn {N k : Nat} (hk : k < 2 ^ 31) (hN : N < 2 ^ 31) : (0 ≤ nI k ∧ nI k < nI N) ↔ k < N := ⟨fun q => (nI_ltI hk hN).mp q.2, fun q => ⟨nI_pos' hk, nI_lt q hN⟩⟩
theorem r_X2_hasHourN (hP : isPar h p P) (hp : p + 5 < n) (ok : okP P) (hg : g < 2 ^ 31) : zRet K l 0 mX2_hasHour [.ref p, .int (nI g)] n h (some (.int (if g < pH P then 1 else 0))) h := by
  have e : (if 0 ≤ nI g ∧ nI g < nI (pH P) then (1 : Int32) else 0) = if g < pH P then 1 else 0 := by
    have := ok.1
    by_cases q : g < pH P
    · rw [if_pos q, if_pos ((z_isIn hg (by omega)).mpr q)]
    · rw [if_neg q, if_neg (fun z => q ((z_isIn hg (by omega)).mp z))]
  rw [← e]
  exact r_X2_hasHour hP hp
theorem r_X2_hasRingerN (hP : isPar h p P) (hp : p + 5 < n) (ok : okP P) (hr : r < 2 ^ 31) : zRet K l 0 mX2_hasRinger [.ref p, .int (nI r)] n h (some (.int (if r < pR P then 1 else 0))) h := by
  have e : (if 0 ≤ nI r ∧ nI r < nI (pR P) then (1 : Int32) else 0) = if r < pR P then 1 else 0 := by
    have := ok.2.1
    by_cases q : r < pR P
    · rw [if_pos q, if_pos ((z_isIn hr (by omega)).mpr q)]
    · rw [if_neg q, if_neg (fun z => q ((z_isIn hr (by omega)).mp z))]
  rw [← e]
  exact r_X2_hasRinger hP hp
theorem r_X2_hasBell (hP : isPar h p P) (hp : p + 5 < n) (ok : okP P) : zRet K l 1 mX2_hasBell [.ref p, .int x, .int y] n h (some (.int (if (0 ≤ x ∧ x < nI (pH P)) ∧ 0 ≤ y ∧ y < nI (pW P x.toNatClampNeg) then 1 else 0))) h := by
  refine zRet.of (by decide) (Nat.le_of_ble_eq_true rfl) (fun Q hQ => ?_)
  obtain ⟨h1, ⟨f, h2, hf⟩, -⟩ := id hP
  have k1 := ok.1
  refine kX2_hasBell_0 ?_
  refine zb_go (zg_aload_n rfl) rfl ?_
  refine zb_go (zg_iload_n rfl) rfl ?_
  refine zb_callv (r_X2_hasHour hP hp) lX2_43 (by repeat (first | assumption | exact z_up_self _ _ _ | refine (z_up_ne (by first | decide | omega)).trans ?_)) rfl rfl (by first | assumption | decide | omega) (by decide) rfl (Nat.le_of_ble_eq_true rfl) rfl ?_
  refine zb_br (zg_if_eq (tgt := 26) (by decide)) rfl (fun c0 => ?_) (fun c0 => ?_)
  · rw [if_neg (fun q => zb_0.mp c0 q.1)] at hQ
    refine kX2_hasBell_26 ?_
    refine zb_go (zg_iconst 0 (by decide)) rfl ?_
    refine zb_out ?_
    refine kX2_hasBell_27 ?_
    refine zb_end (zg_ireturn rfl (by rfl) ?_) rfl
    exact hQ
  · have c0 := zb_n.mp c0
    obtain ⟨g, hg, rfl⟩ := z_isIx (by omega) c0
    rw [nI_clamp (by omega)] at hQ
    refine zb_go (zg_iload_n rfl) rfl ?_
    refine zb_br (zg_if_lt (tgt := 26) (by decide)) rfl (fun c1 => ?_) (fun c1 => ?_)
    · rw [if_neg (fun q => Int32.not_le.mpr c1 q.2.1)] at hQ
      refine kX2_hasBell_26 ?_
      refine zb_go (zg_iconst 0 (by decide)) rfl ?_
      refine zb_out ?_
      refine kX2_hasBell_27 ?_
      refine zb_end (zg_ireturn rfl (by rfl) ?_) rfl
      exact hQ
    · refine zb_go (zg_iload_n rfl) rfl ?_
      refine zb_go (zg_aload_n rfl) rfl ?_
      refine zb_go (zg_getfield fX2_27 (by first | assumption | decide | omega) (by repeat (first | assumption | exact z_up_self _ _ _ | refine (z_up_ne (by first | decide | omega)).trans ?_)) (by rfl)) rfl ?_
      refine zb_go (zg_iload_n rfl) rfl ?_
      refine zb_go (zi_iaload (by first | assumption | decide | omega) (by repeat (first | assumption | exact z_up_self _ _ _ | refine (z_up_ne (by first | decide | omega)).trans ?_)) (by first | assumption | exact zIx.nI (by omega) (by decide) | exact ⟨by decide, by decide⟩)) rfl ?_
      refine zb_br (zg_icmp_ge (tgt := 26) (by decide)) rfl (fun c => ?_) (fun c => ?_)
      · rw [hf g hg] at c
        rw [if_neg (fun q => Int32.not_le.mpr q.2.2 c)] at hQ
        refine kX2_hasBell_26 ?_
        refine zb_go (zg_iconst 0 (by decide)) rfl ?_
        refine zb_out ?_
        refine kX2_hasBell_27 ?_
        refine zb_end (zg_ireturn rfl (by rfl) ?_) rfl
        exact hQ
      · rw [hf g hg] at c
        rw [if_pos ⟨c0, Int32.not_lt.mp c1, Int32.not_le.mp c⟩] at hQ
        refine zb_go (zg_iconst 1 (by decide)) rfl ?_
        refine zb_end (zg_goto (tgt := 27) (by decide) ?_) rfl
        refine kX2_hasBell_27 ?_
        refine zb_end (zg_ireturn rfl (by rfl) ?_) rfl
        exact hQ
theorem z_ifc {p q : Prop} [Decidable p] [Decidable q] {a b : Int32} (h : p ↔ q) : (if p then a else b) = if q then a else b := by
  by_cases hq : q
  · rw [if_pos hq, if_pos (h.mpr hq)]
  · rw [if_neg hq, if_neg (fun z => hq (h.mp z))]
theorem r_X2_hasBellN (hP : isPar h p P) (hp : p + 5 < n) (ok : okP P) (hg : g < 2 ^ 31) (hb : b < 2 ^ 31) : zRet K l 1 mX2_hasBell [.ref p, .int (nI g), .int (nI b)] n h (some (.int (if g < pH P ∧ b < pW P g then 1 else 0))) h := by
  have k1 := ok.1
  have e : (if (0 ≤ nI g ∧ nI g < nI (pH P)) ∧ 0 ≤ nI b ∧ nI b < nI (pW P (nI g).toNatClampNeg) then (1 : Int32) else 0) = if g < pH P ∧ b < pW P g then 1 else 0 := by
    refine z_ifc ?_
    rw [nI_clamp hg]
    by_cases q : g < pH P
    · have hw := ok.2.2.2.2.2.1 g q
      exact and_congr (z_isIn hg (by omega)) (z_isIn hb (by omega))
    · exact ⟨fun z => absurd ((z_isIn hg (by omega)).mp z.1) q, fun z => absurd z.1 q⟩
  rw [← e]
  exact r_X2_hasBell hP hp ok
def zsum (f : Nat → Nat) : Nat → Nat
  | 0 => 0
  | k + 1 => zsum f k + f k
theorem zsum_le {f : Nat → Nat} {m : Nat} : ∀ {k : Nat}, (∀ i, i < k → f i ≤ m) → zsum f k ≤ k * m
  | 0, _ => by simp [zsum]
  | k + 1, h => by
    have := zsum_le (k := k) (fun i hi => h i (by omega))
    have := h k (by omega)
    simp only [zsum]
    rw [Nat.add_mul]
    omega
theorem r_X2_wantedInAll (hP : isPar h p P) (hp : p + 5 < n) (ok : okP P) : zRet K l 0 mX2_wantedInAll [.ref p] n h (some (.int (nI (zsum (pW P) (pH P))))) h := by
  refine zRet.of (by decide) (Nat.le_of_ble_eq_true rfl) (fun Q hQ => ?_)
  obtain ⟨h1, ⟨f, h2, hf⟩, -⟩ := id hP
  have k1 := ok.1
  have lp : ∀ k, k ≤ pH P → zGo K l 0 mX2_wantedInAll 4 [(0, .ref p), (1, .int (nI (zsum (pW P) k))), (2, .int (nI k))] [] n h 0 0 Q := by
    refine z_down _ (fun k hk ih => ?_)
    refine kX2_wantedInAll_4 ?_
    refine zb_go (zg_iload_n rfl) rfl ?_
    refine zb_go (zg_aload_n rfl) rfl ?_
    refine zb_go (zg_getfield fX2_9 (by first | assumption | decide | omega) (by repeat (first | assumption | exact z_up_self _ _ _ | refine (z_up_ne (by first | decide | omega)).trans ?_)) (by rfl)) rfl ?_
    refine zb_br (zg_icmp_ge (tgt := 27) (by decide)) rfl (fun c => ?_) (fun c => ?_)
    · have e : k = pH P := by
        have := (nI_leI (by omega) (by omega)).mp c
        omega
      subst e
      refine kX2_wantedInAll_27 ?_
      refine zb_go (zg_iload_n rfl) rfl ?_
      refine zb_end (zg_ireturn rfl (by rfl) ?_) rfl
      exact hQ
    · have hk4 : k < pH P := Nat.not_le.mp (fun q => c (nI_le q (by omega)))
      refine zb_go (zg_iload_n rfl) rfl ?_
      refine zb_go (zg_aload_n rfl) rfl ?_
      refine zb_go (zg_getfield fX2_27 (by first | assumption | decide | omega) (by repeat (first | assumption | exact z_up_self _ _ _ | refine (z_up_ne (by first | decide | omega)).trans ?_)) (by rfl)) rfl ?_
      refine zb_go (zg_iload_n rfl) rfl ?_
      refine zb_go (zi_iaload (by first | assumption | decide | omega) (by repeat (first | assumption | exact z_up_self _ _ _ | refine (z_up_ne (by first | decide | omega)).trans ?_)) (by first | assumption | exact zIx.nI (by omega) (by decide) | exact ⟨by decide, by decide⟩)) rfl ?_
      refine zb_go zg_iadd rfl ?_
      refine zb_go (zg_istore_n (by decide)) rfl ?_
      refine zb_go (zg_iinc 1 (by decide) rfl (by decide)) rfl ?_
      refine zb_end (zg_goto (tgt := 4) (by decide) ?_) rfl
      rw [hf k hk4, nI_add, nI_1]
      exact ih hk4
  refine kX2_wantedInAll_0 ?_
  refine zb_go (zg_iconst 0 (by decide)) rfl ?_
  refine zb_go (zg_istore_n (by decide)) rfl ?_
  refine zb_go (zg_iconst 0 (by decide)) rfl ?_
  refine zb_go (zg_istore_n (by decide)) rfl ?_
  refine zb_out ?_
  exact lp 0 (by omega)
/-- the bells of an hour that a ringer could ring in it, as bits -/
def sBells (P : zP) (r g : Nat) : Nat := if r < pR P ∧ g < pH P ∧ (pBu P r).testBit g = false then pBe P r &&& (2 ^ pW P g - 1) else 0
theorem z_mask {k : Nat} (hk : k < 31) : ((1 : Int32) <<< (nI k &&& 31)) - 1 = nI (2 ^ k - 1) := by
  rw [show (1 : Int32) = nI 1 from rfl, z_shl (by omega), Nat.shiftLeft_eq, Nat.one_mul, pk_sub (Nat.two_pow_pos k)]
theorem r_X2_bellsFor (hP : isPar h p P) (hp : p + 5 < n) (ok : okP P) (hr : r < 2 ^ 31) (hg : g < 2 ^ 31) : zRet K l 1 mX2_bellsFor [.ref p, .int (nI r), .int (nI g)] n h (some (.int (nI (sBells P r g)))) h := by
  refine zRet.of (by decide) (Nat.le_of_ble_eq_true rfl) (fun Q hQ => ?_)
  obtain ⟨h1, ⟨f, h2, hf⟩, -, ⟨fb, h4, hfb⟩, ⟨fu, h5, hfu⟩, -⟩ := id hP
  have k1 := ok.1
  have k2 := ok.2.1
  unfold sBells at hQ
  refine kX2_bellsFor_0 ?_
  refine zb_go (zg_aload_n rfl) rfl ?_
  refine zb_go (zg_iload_n rfl) rfl ?_
  refine zb_callv (r_X2_hasRingerN hP hp ok hr) lX2_47 (by repeat (first | assumption | exact z_up_self _ _ _ | refine (z_up_ne (by first | decide | omega)).trans ?_)) rfl rfl (by first | assumption | decide | omega) (by decide) rfl (Nat.le_of_ble_eq_true rfl) rfl ?_
  refine zb_br (zg_if_eq (tgt := 29) (by decide)) rfl (fun c0 => ?_) (fun c0 => ?_)
  · rw [if_neg (fun q => zb_0.mp c0 q.1)] at hQ
    refine kX2_bellsFor_29 ?_
    refine zb_go (zg_iconst 0 (by decide)) rfl ?_
    refine zb_end (zg_ireturn rfl (by rfl) ?_) rfl
    exact hQ
  · have c0 := zb_n.mp c0
    have hb := ok.2.2.2.2.2.2 r c0
    refine zb_go (zg_aload_n rfl) rfl ?_
    refine zb_go (zg_iload_n rfl) rfl ?_
    refine zb_callv (r_X2_hasHourN hP hp ok hg) lX2_43 (by repeat (first | assumption | exact z_up_self _ _ _ | refine (z_up_ne (by first | decide | omega)).trans ?_)) rfl rfl (by first | assumption | decide | omega) (by decide) rfl (Nat.le_of_ble_eq_true rfl) rfl ?_
    refine zb_br (zg_if_eq (tgt := 29) (by decide)) rfl (fun c1 => ?_) (fun c1 => ?_)
    · rw [if_neg (fun q => zb_0.mp c1 q.2.1)] at hQ
      refine kX2_bellsFor_29 ?_
      refine zb_go (zg_iconst 0 (by decide)) rfl ?_
      refine zb_end (zg_ireturn rfl (by rfl) ?_) rfl
      exact hQ
    · have c1 := zb_n.mp c1
      have hw := ok.2.2.2.2.2.1 g c1
      refine zb_go (zg_aload_n rfl) rfl ?_
      refine zb_go (zg_getfield fX2_37 (by first | assumption | decide | omega) (by repeat (first | assumption | exact z_up_self _ _ _ | refine (z_up_ne (by first | decide | omega)).trans ?_)) (by rfl)) rfl ?_
      refine zb_go (zg_iload_n rfl) rfl ?_
      refine zb_go (zi_iaload (by first | assumption | decide | omega) (by repeat (first | assumption | exact z_up_self _ _ _ | refine (z_up_ne (by first | decide | omega)).trans ?_)) (by first | assumption | exact zIx.nI (by omega) (by decide) | exact ⟨by decide, by decide⟩)) rfl ?_
      refine zb_go (zg_iload_n rfl) rfl ?_
      refine zb_go zg_ishr rfl ?_
      refine zb_go (zg_iconst 1 (by decide)) rfl ?_
      refine zb_go zg_iand rfl ?_
      refine zb_br (zg_if_eq (tgt := 31) (by decide)) rfl (fun c2 => ?_) (fun c2 => ?_)
      · rw [hfu r c0, z_bit (by omega) (by omega)] at c2
        rw [if_pos ⟨c0, c1, by simpa using zb_0.mp c2⟩] at hQ
        refine kX2_bellsFor_31 ?_
        refine zb_go (zg_aload_n rfl) rfl ?_
        refine zb_go (zg_getfield fX2_34 (by first | assumption | decide | omega) (by repeat (first | assumption | exact z_up_self _ _ _ | refine (z_up_ne (by first | decide | omega)).trans ?_)) (by rfl)) rfl ?_
        refine zb_go (zg_iload_n rfl) rfl ?_
        refine zb_go (zi_iaload (by first | assumption | decide | omega) (by repeat (first | assumption | exact z_up_self _ _ _ | refine (z_up_ne (by first | decide | omega)).trans ?_)) (by first | assumption | exact zIx.nI (by omega) (by decide) | exact ⟨by decide, by decide⟩)) rfl ?_
        refine zb_go (zg_iconst 1 (by decide)) rfl ?_
        refine zb_go (zg_aload_n rfl) rfl ?_
        refine zb_go (zg_getfield fX2_27 (by first | assumption | decide | omega) (by repeat (first | assumption | exact z_up_self _ _ _ | refine (z_up_ne (by first | decide | omega)).trans ?_)) (by rfl)) rfl ?_
        refine zb_go (zg_iload_n rfl) rfl ?_
        refine zb_go (zi_iaload (by first | assumption | decide | omega) (by repeat (first | assumption | exact z_up_self _ _ _ | refine (z_up_ne (by first | decide | omega)).trans ?_)) (by first | assumption | exact zIx.nI (by omega) (by decide) | exact ⟨by decide, by decide⟩)) rfl ?_
        refine zb_go zg_ishl rfl ?_
        refine zb_go (zg_iconst 1 (by decide)) rfl ?_
        refine zb_go zg_isub rfl ?_
        refine zb_go zg_iand rfl ?_
        refine zb_end (zg_ireturn rfl (by rfl) ?_) rfl
        rw [hf g c1, hfb r c0, z_mask (by omega), z_and]
        exact hQ
      · rw [hfu r c0, z_bit (by omega) (by omega)] at c2
        rw [if_neg (fun q => by have := zb_n.mp c2; rw [q.2.2] at this; exact absurd this (by decide))] at hQ
        refine zb_out ?_
        refine kX2_bellsFor_29 ?_
        refine zb_go (zg_iconst 0 (by decide)) rfl ?_
        refine zb_end (zg_ireturn rfl (by rfl) ?_) rfl
        exact hQ
theorem sBells_lt (ok : okP P) : sBells P r g ≤ 7 := by
  unfold sBells
  split
  · next q =>
    have := (ok.2.2.2.2.2.2 r q.1).2.1
    exact Nat.le_trans Nat.and_le_left this
  · omega
theorem r_X2_canRing (hP : isPar h p P) (hp : p + 5 < n) (ok : okP P) (hr : r < 2 ^ 31) (hg : g < 2 ^ 31) (hb : b < 31) : zRet K l 2 mX2_canRing [.ref p, .int (nI r), .int (nI g), .int (nI b)] n h (some (.int (if (g < pH P ∧ b < pW P g) ∧ (sBells P r g).testBit b then 1 else 0))) h := by
  refine zRet.of (by decide) (Nat.le_of_ble_eq_true rfl) (fun Q hQ => ?_)
  have h1 := hP.1
  have k1 := sBells_lt (r := r) (g := g) ok
  refine kX2_canRing_0 ?_
  refine zb_go (zg_aload_n rfl) rfl ?_
  refine zb_go (zg_iload_n rfl) rfl ?_
  refine zb_go (zg_iload_n rfl) rfl ?_
  refine zb_callv (r_X2_hasBellN hP hp ok hg (by omega)) lX2_50 (by repeat (first | assumption | exact z_up_self _ _ _ | refine (z_up_ne (by first | decide | omega)).trans ?_)) rfl rfl (by first | assumption | decide | omega) (by decide) rfl (Nat.le_of_ble_eq_true rfl) rfl ?_
  refine zb_br (zg_if_eq (tgt := 26) (by decide)) rfl (fun c0 => ?_) (fun c0 => ?_)
  · rw [if_neg (fun q => zb_0.mp c0 q.1)] at hQ
    refine kX2_canRing_26 ?_
    refine zb_go (zg_iconst 0 (by decide)) rfl ?_
    refine zb_out ?_
    refine kX2_canRing_27 ?_
    refine zb_end (zg_ireturn rfl (by rfl) ?_) rfl
    exact hQ
  · refine zb_go (zg_aload_n rfl) rfl ?_
    refine zb_go (zg_iload_n rfl) rfl ?_
    refine zb_go (zg_iload_n rfl) rfl ?_
    refine zb_callv (r_X2_bellsFor hP hp ok hr hg) lX2_54 (by repeat (first | assumption | exact z_up_self _ _ _ | refine (z_up_ne (by first | decide | omega)).trans ?_)) rfl rfl (by first | assumption | decide | omega) (by decide) rfl (Nat.le_of_ble_eq_true rfl) rfl ?_
    refine zb_go (zg_iload_n rfl) rfl ?_
    refine zb_go zg_ishr rfl ?_
    refine zb_go (zg_iconst 1 (by decide)) rfl ?_
    refine zb_go zg_iand rfl ?_
    refine zb_br (zg_if_eq (tgt := 26) (by decide)) rfl (fun c1 => ?_) (fun c1 => ?_)
    · rw [z_bit (by omega) (by omega)] at c1
      rw [if_neg (fun q => zb_0.mp c1 q.2)] at hQ
      refine kX2_canRing_26 ?_
      refine zb_go (zg_iconst 0 (by decide)) rfl ?_
      refine zb_out ?_
      refine kX2_canRing_27 ?_
      refine zb_end (zg_ireturn rfl (by rfl) ?_) rfl
      exact hQ
    · rw [z_bit (by omega) (by omega)] at c1
      rw [if_pos ⟨zb_n.mp c0, zb_n.mp c1⟩] at hQ
      refine zb_go (zg_iconst 1 (by decide)) rfl ?_
      refine zb_end (zg_goto (tgt := 27) (by decide) ?_) rfl
      refine kX2_canRing_27 ?_
      refine zb_end (zg_ireturn rfl (by rfl) ?_) rfl
      exact hQ
/-- how many of a set of ringers could ring any of these bells -/
def sAble (P : zP) (g am be : Nat) (k : Nat) : Nat := zcnt (fun r => am.testBit r && decide (sBells P r g &&& be ≠ 0)) k
theorem r_X2_ableOf {am be : Nat} (hP : isPar h p P) (hp : p + 5 < n) (ok : okP P) (hg : g < 2 ^ 31) (ha : am < 2 ^ 31) (hbe : be < 2 ^ 31) : zRet K l 2 mX2_ableOf [.ref p, .int (nI g), .int (nI am), .int (nI be)] n h (some (.int (nI (sAble P g am be (pR P))))) h := by
  refine zRet.of (by decide) (Nat.le_of_ble_eq_true rfl) (fun Q hQ => ?_)
  have h1 := hP.1
  have k2 := ok.2.1
  have lp : ∀ k, k ≤ pR P → zGo K l 2 mX2_ableOf 6 [(0, .ref p), (1, .int (nI g)), (2, .int (nI am)), (3, .int (nI be)), (4, .int (nI (sAble P g am be k))), (5, .int (nI k))] [] n h 0 0 Q := by
    refine z_down _ (fun k hk ih => ?_)
    refine kX2_ableOf_6 ?_
    refine zb_go (zg_iload rfl) rfl ?_
    refine zb_go (zg_aload_n rfl) rfl ?_
    refine zb_go (zg_getfield fX2_15 (by first | assumption | decide | omega) (by repeat (first | assumption | exact z_up_self _ _ _ | refine (z_up_ne (by first | decide | omega)).trans ?_)) (by rfl)) rfl ?_
    refine zb_br (zg_icmp_ge (tgt := 45) (by decide)) rfl (fun c => ?_) (fun c => ?_)
    · have e : k = pR P := by
        have := (nI_leI (by omega) (by omega)).mp c
        omega
      subst e
      refine kX2_ableOf_45 ?_
      refine zb_go (zg_iload rfl) rfl ?_
      refine zb_end (zg_ireturn rfl (by rfl) ?_) rfl
      exact hQ
    · have hk4 : k < pR P := Nat.not_le.mp (fun q => c (nI_le q (by omega)))
      have kb := sBells_lt (r := k) (g := g) ok
      have kand : sBells P k g &&& be ≤ 7 := Nat.le_trans Nat.and_le_left kb
      refine zb_go (zg_iload_n rfl) rfl ?_
      refine zb_go (zg_iload rfl) rfl ?_
      refine zb_go zg_ishr rfl ?_
      refine zb_go (zg_iconst 1 (by decide)) rfl ?_
      refine zb_go zg_iand rfl ?_
      refine zb_br (zg_if_eq (tgt := 39) (by decide)) rfl (fun c1 => ?_) (fun c1 => ?_)
      · rw [z_bit ha (by omega)] at c1
        have e : sAble P g am be (k + 1) = sAble P g am be k := by simp [sAble, zcnt, zb_0.mp c1]
        refine kX2_ableOf_39 ?_
        refine zb_go (zg_iinc 1 (by decide) rfl (by decide)) rfl ?_
        refine zb_end (zg_goto (tgt := 6) (by decide) ?_) rfl
        rw [nI_1, ← e]
        exact ih hk4
      · rw [z_bit ha (by omega)] at c1
        have c1 := zb_n.mp c1
        refine zb_go (zg_aload_n rfl) rfl ?_
        refine zb_go (zg_iload rfl) rfl ?_
        refine zb_go (zg_iload_n rfl) rfl ?_
        refine zb_callv (r_X2_bellsFor hP hp ok (by omega) hg) lX2_54 (by repeat (first | assumption | exact z_up_self _ _ _ | refine (z_up_ne (by first | decide | omega)).trans ?_)) rfl rfl (by first | assumption | decide | omega) (by decide) rfl (Nat.le_of_ble_eq_true rfl) rfl ?_
        refine zb_go (zg_iload_n rfl) rfl ?_
        refine zb_go zg_iand rfl ?_
        refine zb_br (zg_if_eq (tgt := 39) (by decide)) rfl (fun c2 => ?_) (fun c2 => ?_)
        · rw [z_and] at c2
          have c2 : sBells P k g &&& be = 0 := (nI_eq (b := 0) (by omega) (by omega)).mp c2
          have e : sAble P g am be (k + 1) = sAble P g am be k := by simp [sAble, zcnt, c2]
          refine kX2_ableOf_39 ?_
          refine zb_go (zg_iinc 1 (by decide) rfl (by decide)) rfl ?_
          refine zb_end (zg_goto (tgt := 6) (by decide) ?_) rfl
          rw [nI_1, ← e]
          exact ih hk4
        · rw [z_and] at c2
          have c2 : ¬ sBells P k g &&& be = 0 := fun q => c2 (by rw [q]; rfl)
          have e : sAble P g am be (k + 1) = sAble P g am be k + 1 := by simp [sAble, zcnt, c1, c2]
          refine zb_go (zg_iinc 1 (by decide) rfl (by decide)) rfl ?_
          refine zb_out ?_
          refine kX2_ableOf_39 ?_
          refine zb_go (zg_iinc 1 (by decide) rfl (by decide)) rfl ?_
          refine zb_end (zg_goto (tgt := 6) (by decide) ?_) rfl
          rw [nI_1, nI_1, ← e]
          exact ih hk4
  refine kX2_ableOf_0 ?_
  refine zb_go (zg_iconst 0 (by decide)) rfl ?_
  refine zb_go (zg_istore (by decide)) rfl ?_
  refine zb_go (zg_iconst 0 (by decide)) rfl ?_
  refine zb_go (zg_istore (by decide)) rfl ?_
  refine zb_out ?_
  exact lp 0 (by omega)
theorem r_X2_busyHours (hP : isPar h p P) (hp : p + 5 < n) (ok : okP P) (hr : r < pR P) : zRet K l 1 mX2_busyHours [.ref p, .int (nI r)] n h (some (.int (nI (zpop (pBu P r &&& (2 ^ pH P - 1)))))) h := by
  refine zRet.of (by decide) (Nat.le_of_ble_eq_true rfl) (fun Q hQ => ?_)
  obtain ⟨h1, -, -, -, ⟨fu, h5, hfu⟩, -⟩ := id hP
  have k1 := ok.1
  have k2 := ok.2.1
  have hb := ok.2.2.2.2.2.2 r hr
  have hand : pBu P r &&& (2 ^ pH P - 1) ≤ 15 := Nat.le_trans Nat.and_le_left hb.2.2.1
  refine kX2_busyHours_0 ?_
  refine zb_go (zg_aload_n rfl) rfl ?_
  refine zb_go (zg_iload_n rfl) rfl ?_
  refine zb_callv (r_X2_hasRingerN hP hp ok (by omega)) lX2_47 (by repeat (first | assumption | exact z_up_self _ _ _ | refine (z_up_ne (by first | decide | omega)).trans ?_)) rfl rfl (by first | assumption | decide | omega) (by decide) rfl (Nat.le_of_ble_eq_true rfl) rfl ?_
  refine zb_br (zg_if_eq (tgt := 29) (by decide)) rfl (fun c => ?_) (fun c => ?_)
  · exact absurd hr (zb_0.mp c)
  · refine zb_go (zg_aload_n rfl) rfl ?_
    refine zb_go (zg_getfield fX2_37 (by first | assumption | decide | omega) (by repeat (first | assumption | exact z_up_self _ _ _ | refine (z_up_ne (by first | decide | omega)).trans ?_)) (by rfl)) rfl ?_
    refine zb_go (zg_iload_n rfl) rfl ?_
    refine zb_go (zi_iaload (by first | assumption | decide | omega) (by repeat (first | assumption | exact z_up_self _ _ _ | refine (z_up_ne (by first | decide | omega)).trans ?_)) (by first | assumption | exact zIx.nI (by omega) (by decide) | exact ⟨by decide, by decide⟩)) rfl ?_
    refine zb_go (zg_iconst 1 (by decide)) rfl ?_
    refine zb_go (zg_aload_n rfl) rfl ?_
    refine zb_go (zg_getfield fX2_9 (by first | assumption | decide | omega) (by repeat (first | assumption | exact z_up_self _ _ _ | refine (z_up_ne (by first | decide | omega)).trans ?_)) (by rfl)) rfl ?_
    refine zb_go zg_ishl rfl ?_
    refine zb_go (zg_iconst 1 (by decide)) rfl ?_
    refine zb_go zg_isub rfl ?_
    refine zb_go zg_iand rfl ?_
    rw [hfu r hr, z_mask (by omega), z_and]
    refine zb_calls (r_bitCount (by omega)) lX2_58 rfl (by decide) rfl (Nat.le_of_ble_eq_true rfl) rfl ?_
    refine zb_end (zg_goto (tgt := 30) (by decide) ?_) rfl
    refine kX2_busyHours_30 ?_
    refine zb_end (zg_ireturn rfl (by rfl) ?_) rfl
    exact hQ
def zdist (a b : Nat) : Nat := if a ≤ b then b - a else a - b
theorem z_absd {a b : Nat} (ha : a < 2 ^ 30) (hb : b < 2 ^ 30) : (if 0 ≤ nI a - nI b then nI a - nI b else 0 - (nI a - nI b)) = nI (zdist a b) := by
  unfold zdist
  rcases Nat.lt_or_ge a b with q | q
  · have h1 := pk_sneg hb q
    rw [if_neg (Int32.not_le.mpr h1), if_pos (by omega), show (0 : Int32) - (nI a - nI b) = nI b - nI a by rw [Int32.zero_sub, Int32.neg_sub], pk_sub (by omega)]
  · rw [pk_sub q, if_pos (nI_pos' (by omega))]
    split
    · next z => rw [show a - b = b - a by omega]
    · rfl
theorem r_X2_way {w : Nat} (hP : isPar h p P) (hp : p + 5 < n) (ok : okP P) (hr : r < pR P) (hw : w < 2 ^ 30) : zRet K l 1 mX2_way [.ref p, .int (nI r), .int (nI w)] n h (some (.int (nI (zdist (pHo P r) w)))) h := by
  refine zRet.of (by decide) (Nat.le_of_ble_eq_true rfl) (fun Q hQ => ?_)
  obtain ⟨h1, -, ⟨fu, h5, hfu⟩, -⟩ := id hP
  have k2 := ok.2.1
  have hb := ok.2.2.2.2.2.2 r hr
  refine kX2_way_0 ?_
  refine zb_go (zg_aload_n rfl) rfl ?_
  refine zb_go (zg_iload_n rfl) rfl ?_
  refine zb_callv (r_X2_hasRingerN hP hp ok (by omega)) lX2_47 (by repeat (first | assumption | exact z_up_self _ _ _ | refine (z_up_ne (by first | decide | omega)).trans ?_)) rfl rfl (by first | assumption | decide | omega) (by decide) rfl (Nat.le_of_ble_eq_true rfl) rfl ?_
  refine zb_br (zg_if_eq (tgt := 22) (by decide)) rfl (fun c => ?_) (fun c => ?_)
  · exact absurd hr (zb_0.mp c)
  · rw [← z_absd (by omega) hw, ← hfu r hr] at hQ
    refine zb_go (zg_aload_n rfl) rfl ?_
    refine zb_go (zg_getfield fX2_31 (by first | assumption | decide | omega) (by repeat (first | assumption | exact z_up_self _ _ _ | refine (z_up_ne (by first | decide | omega)).trans ?_)) (by rfl)) rfl ?_
    refine zb_go (zg_iload_n rfl) rfl ?_
    refine zb_go (zi_iaload (by first | assumption | decide | omega) (by repeat (first | assumption | exact z_up_self _ _ _ | refine (z_up_ne (by first | decide | omega)).trans ?_)) (by first | assumption | exact zIx.nI (by omega) (by decide) | exact ⟨by decide, by decide⟩)) rfl ?_
    refine zb_go (zg_iload_n rfl) rfl ?_
    refine zb_go zg_isub rfl ?_
    refine zb_go (zg_mabs wlX2_64 (by decide) (Nat.le_of_ble_eq_true rfl)) rfl ?_
    refine zb_end (zg_goto (tgt := 23) (by decide) ?_) rfl
    refine kX2_way_23 ?_
    refine zb_end (zg_ireturn rfl (by rfl) ?_) rfl
    exact hQ
def zprod (f : Nat → Nat) : Nat → Nat
  | 0 => 1
  | k + 1 => zprod f k * f k
def sWt (P : zP) (w : Nat) : Nat → Nat := zprod (fun r => if w.testBit r then 10 - pIl P r else pIl P r)
theorem r_X2_weightOf {w : Nat} (hP : isPar h p P) (hp : p + 5 < n) (ok : okP P) (hw : w < 2 ^ 31) : zRet K l 0 mX2_weightOf [.ref p, .int (nI w)] n h (some (.int (nI (sWt P w (pR P))))) h := by
  refine zRet.of (by decide) (Nat.le_of_ble_eq_true rfl) (fun Q hQ => ?_)
  obtain ⟨h1, -, -, -, -, ⟨f, h6, hf⟩⟩ := id hP
  have k2 := ok.2.1
  have lp : ∀ k, k ≤ pR P → zGo K l 0 mX2_weightOf 4 [(0, .ref p), (1, .int (nI w)), (2, .int (nI (sWt P w k))), (3, .int (nI k))] [] n h 0 0 Q := by
    refine z_down _ (fun k hk ih => ?_)
    refine kX2_weightOf_4 ?_
    refine zb_go (zg_iload_n rfl) rfl ?_
    refine zb_go (zg_aload_n rfl) rfl ?_
    refine zb_go (zg_getfield fX2_15 (by first | assumption | decide | omega) (by repeat (first | assumption | exact z_up_self _ _ _ | refine (z_up_ne (by first | decide | omega)).trans ?_)) (by rfl)) rfl ?_
    refine zb_br (zg_icmp_ge (tgt := 47) (by decide)) rfl (fun c => ?_) (fun c => ?_)
    · have e : k = pR P := by
        have := (nI_leI (by omega) (by omega)).mp c
        omega
      subst e
      refine kX2_weightOf_47 ?_
      refine zb_go (zg_iload_n rfl) rfl ?_
      refine zb_end (zg_ireturn rfl (by rfl) ?_) rfl
      exact hQ
    · have hk4 : k < pR P := Nat.not_le.mp (fun q => c (nI_le q (by omega)))
      have hil := (ok.2.2.2.2.2.2 k hk4).2.2.2
      refine zb_go (zg_iload_n rfl) rfl ?_
      refine zb_go (zg_iload_n rfl) rfl ?_
      refine zb_go (zg_iload_n rfl) rfl ?_
      refine zb_go zg_ishr rfl ?_
      refine zb_go (zg_iconst 1 (by decide)) rfl ?_
      refine zb_go zg_iand rfl ?_
      refine zb_br (zg_if_eq (tgt := 33) (by decide)) rfl (fun c1 => ?_) (fun c1 => ?_)
      · rw [z_bit hw (by omega)] at c1
        have e : sWt P w (k + 1) = sWt P w k * pIl P k := by simp [sWt, zprod, zb_0.mp c1]
        refine kX2_weightOf_33 ?_
        refine zb_go (zg_aload_n rfl) rfl ?_
        refine zb_go (zg_getfield fX2_40 (by first | assumption | decide | omega) (by repeat (first | assumption | exact z_up_self _ _ _ | refine (z_up_ne (by first | decide | omega)).trans ?_)) (by rfl)) rfl ?_
        refine zb_go (zg_iload_n rfl) rfl ?_
        refine zb_go (zi_iaload (by first | assumption | decide | omega) (by repeat (first | assumption | exact z_up_self _ _ _ | refine (z_up_ne (by first | decide | omega)).trans ?_)) (by first | assumption | exact zIx.nI (by omega) (by decide) | exact ⟨by decide, by decide⟩)) rfl ?_
        refine zb_out ?_
        refine kX2_weightOf_39 ?_
        refine zb_go zg_imul rfl ?_
        refine zb_go (zg_istore_n (by decide)) rfl ?_
        refine zb_go (zg_iinc 1 (by decide) rfl (by decide)) rfl ?_
        refine zb_end (zg_goto (tgt := 4) (by decide) ?_) rfl
        rw [hf k hk4, pk_mul, nI_1, ← e]
        exact ih hk4
      · rw [z_bit hw (by omega)] at c1
        have e : sWt P w (k + 1) = sWt P w k * (10 - pIl P k) := by simp [sWt, zprod, zb_n.mp c1]
        refine zb_go (zg_bipush 10 (by decide)) rfl ?_
        refine zb_go (zg_aload_n rfl) rfl ?_
        refine zb_go (zg_getfield fX2_40 (by first | assumption | decide | omega) (by repeat (first | assumption | exact z_up_self _ _ _ | refine (z_up_ne (by first | decide | omega)).trans ?_)) (by rfl)) rfl ?_
        refine zb_go (zg_iload_n rfl) rfl ?_
        refine zb_go (zi_iaload (by first | assumption | decide | omega) (by repeat (first | assumption | exact z_up_self _ _ _ | refine (z_up_ne (by first | decide | omega)).trans ?_)) (by first | assumption | exact zIx.nI (by omega) (by decide) | exact ⟨by decide, by decide⟩)) rfl ?_
        refine zb_go zg_isub rfl ?_
        rw [hf k hk4, show (10 : Int32) = nI 10 from rfl, pk_sub (by omega)]
        refine zb_end (zg_goto (tgt := 39) (by decide) ?_) rfl
        refine kX2_weightOf_39 ?_
        refine zb_go zg_imul rfl ?_
        refine zb_go (zg_istore_n (by decide)) rfl ?_
        refine zb_go (zg_iinc 1 (by decide) rfl (by decide)) rfl ?_
        refine zb_end (zg_goto (tgt := 4) (by decide) ?_) rfl
        rw [pk_mul, nI_1, ← e]
        exact ih hk4
  refine kX2_weightOf_0 ?_
  refine zb_go (zg_iconst 1 (by decide)) rfl ?_
  refine zb_go (zg_istore_n (by decide)) rfl ?_
  refine zb_go (zg_iconst 0 (by decide)) rfl ?_
  refine zb_go (zg_istore_n (by decide)) rfl ?_
  refine zb_out ?_
  exact lp 0 (by omega)
theorem r_X2_weightInAll (hP : isPar h p P) (hp : p + 5 < n) (ok : okP P) : zRet K l 0 mX2_weightInAll [.ref p] n h (some (.int (nI (10 ^ pR P)))) h := by
  refine zRet.of (by decide) (Nat.le_of_ble_eq_true rfl) (fun Q hQ => ?_)
  have h1 := hP.1
  have k2 := ok.2.1
  have lp : ∀ k, k ≤ pR P → zGo K l 0 mX2_weightInAll 4 [(0, .ref p), (1, .int (nI (10 ^ k))), (2, .int (nI k))] [] n h 0 0 Q := by
    refine z_down _ (fun k hk ih => ?_)
    refine kX2_weightInAll_4 ?_
    refine zb_go (zg_iload_n rfl) rfl ?_
    refine zb_go (zg_aload_n rfl) rfl ?_
    refine zb_go (zg_getfield fX2_15 (by first | assumption | decide | omega) (by repeat (first | assumption | exact z_up_self _ _ _ | refine (z_up_ne (by first | decide | omega)).trans ?_)) (by rfl)) rfl ?_
    refine zb_br (zg_icmp_ge (tgt := 23) (by decide)) rfl (fun c => ?_) (fun c => ?_)
    · have e : k = pR P := by
        have := (nI_leI (by omega) (by omega)).mp c
        omega
      subst e
      refine kX2_weightInAll_23 ?_
      refine zb_go (zg_iload_n rfl) rfl ?_
      refine zb_end (zg_ireturn rfl (by rfl) ?_) rfl
      exact hQ
    · have hk4 : k < pR P := Nat.not_le.mp (fun q => c (nI_le q (by omega)))
      refine zb_go (zg_iload_n rfl) rfl ?_
      refine zb_go (zg_bipush 10 (by decide)) rfl ?_
      refine zb_go zg_imul rfl ?_
      refine zb_go (zg_istore_n (by decide)) rfl ?_
      refine zb_go (zg_iinc 1 (by decide) rfl (by decide)) rfl ?_
      refine zb_end (zg_goto (tgt := 4) (by decide) ?_) rfl
      rw [show (10 : Int32) = nI 10 from rfl, pk_mul, nI_1, ← Nat.pow_succ]
      exact ih hk4
  refine kX2_weightInAll_0 ?_
  refine zb_go (zg_iconst 1 (by decide)) rfl ?_
  refine zb_go (zg_istore_n (by decide)) rfl ?_
  refine zb_go (zg_iconst 0 (by decide)) rfl ?_
  refine zb_go (zg_istore_n (by decide)) rfl ?_
  refine zb_out ?_
  exact lp 0 (by omega)
/-- only cells lo .. hi may differ -/
def zSame (lo hi : Nat) (h h' : zH) : Prop := ∀ k, k < lo ∨ hi < k → h' k = h k
theorem zSame.rf {lo hi : Nat} {h : zH} : zSame lo hi h h := fun _ _ => rfl
theorem zSame.trans {lo hi : Nat} {h h1 h2 : zH} (a : zSame lo hi h h1) (b : zSame lo hi h1 h2) : zSame lo hi h h2 := fun k hk => (b k hk).trans (a k hk)
theorem zSame.up {lo hi a : Nat} {h h1 : zH} {e : va_E} (s : zSame lo hi h h1) (h1' : lo ≤ a) (h2 : a ≤ hi) : zSame lo hi h (z_up h1 a e) := fun k hk => by
  rw [z_up_ne (by omega)]; exact s k hk
theorem zSame.wide {lo hi lo' hi' : Nat} {h h1 : zH} (s : zSame lo hi h h1) (h1' : lo' ≤ lo) (h2 : hi ≤ hi') : zSame lo' hi' h h1 := fun k hk => s k (by omega)
theorem isPar.same {lo hi : Nat} {h h1 : zH} {p : Nat} {P : zP} (hP : isPar h p P) (s : zSame lo hi h h1) (hp : p + 5 < lo ∨ hi < p) : isPar h1 p P := by
  obtain ⟨a1, ⟨f1, a2, b2⟩, ⟨f2, a3, b3⟩, ⟨f3, a4, b4⟩, ⟨f4, a5, b5⟩, ⟨f5, a6, b6⟩⟩ := hP
  exact ⟨(s _ (by omega)).trans a1, ⟨f1, (s _ (by omega)).trans a2, b2⟩, ⟨f2, (s _ (by omega)).trans a3, b3⟩, ⟨f3, (s _ (by omega)).trans a4, b4⟩, ⟨f4, (s _ (by omega)).trans a5, b5⟩, ⟨f5, (s _ (by omega)).trans a6, b6⟩⟩
def pEmpty (P : zP) : zP := (0, 0, 0, 1, 0, pW P, pHo P, pBe P, pBu P, pIl P)
theorem r_X2_empty (hP : isPar h p P) (hp : p + 5 < n) : zRex K l 0 mX2_empty [.ref p] n h (fun v h' => v = none ∧ isPar h' p (pEmpty P) ∧ zSame p (p + 5) h h') := by
  refine zRex.of (by decide) (Nat.le_of_ble_eq_true rfl) (fun Q hQ => ?_)
  obtain ⟨h1, ⟨f1, a2, b2⟩, ⟨f2, a3, b3⟩, ⟨f3, a4, b4⟩, ⟨f4, a5, b5⟩, ⟨f5, a6, b6⟩⟩ := id hP
  refine kX2_empty_0 ?_
  refine zb_go (zg_aload_n rfl) rfl ?_
  refine zb_go (zg_iconst 0 (by decide)) rfl ?_
  refine zb_go (zg_putfield fX2_9 (by first | assumption | decide | omega) (by repeat (first | assumption | exact z_up_self _ _ _ | refine (z_up_ne (by first | decide | omega)).trans ?_)) (by exact Nat.le_of_ble_eq_true rfl) (by rfl) (by rfl) (by first | exact Or.inl rfl | exact Or.inr ⟨rfl, rfl⟩)) rfl ?_
  refine zb_go (zg_aload_n rfl) rfl ?_
  refine zb_go (zg_iconst 0 (by decide)) rfl ?_
  refine zb_go (zg_putfield fX2_15 (by first | assumption | decide | omega) (by repeat (first | assumption | exact z_up_self _ _ _ | refine (z_up_ne (by first | decide | omega)).trans ?_)) (by exact Nat.le_of_ble_eq_true rfl) (by rfl) (by rfl) (by first | exact Or.inl rfl | exact Or.inr ⟨rfl, rfl⟩)) rfl ?_
  refine zb_go (zg_aload_n rfl) rfl ?_
  refine zb_go (zg_iconst 0 (by decide)) rfl ?_
  refine zb_go (zg_putfield fX2_18 (by first | assumption | decide | omega) (by repeat (first | assumption | exact z_up_self _ _ _ | refine (z_up_ne (by first | decide | omega)).trans ?_)) (by exact Nat.le_of_ble_eq_true rfl) (by rfl) (by rfl) (by first | exact Or.inl rfl | exact Or.inr ⟨rfl, rfl⟩)) rfl ?_
  refine zb_go (zg_aload_n rfl) rfl ?_
  refine zb_go (zg_iconst 1 (by decide)) rfl ?_
  refine zb_go (zg_putfield fX2_21 (by first | assumption | decide | omega) (by repeat (first | assumption | exact z_up_self _ _ _ | refine (z_up_ne (by first | decide | omega)).trans ?_)) (by exact Nat.le_of_ble_eq_true rfl) (by rfl) (by rfl) (by first | exact Or.inl rfl | exact Or.inr ⟨rfl, rfl⟩)) rfl ?_
  refine zb_go (zg_aload_n rfl) rfl ?_
  refine zb_go (zg_iconst 0 (by decide)) rfl ?_
  refine zb_go (zg_putfield fX2_24 (by first | assumption | decide | omega) (by repeat (first | assumption | exact z_up_self _ _ _ | refine (z_up_ne (by first | decide | omega)).trans ?_)) (by exact Nat.le_of_ble_eq_true rfl) (by rfl) (by rfl) (by first | exact Or.inl rfl | exact Or.inr ⟨rfl, rfl⟩)) rfl ?_
  refine zb_end (zg_return rfl ?_) rfl
  rw [z_up_up, z_up_up, z_up_up, z_up_up]
  refine hQ _ _ ⟨rfl, ⟨z_up_self _ _ _, ⟨f1, (z_up_ne (by omega)).trans a2, fun i hi => absurd hi (Nat.not_lt_zero _)⟩, ⟨f2, (z_up_ne (by omega)).trans a3, fun i hi => absurd hi (Nat.not_lt_zero _)⟩, ⟨f3, (z_up_ne (by omega)).trans a4, fun i hi => absurd hi (Nat.not_lt_zero _)⟩, ⟨f4, (z_up_ne (by omega)).trans a5, fun i hi => absurd hi (Nat.not_lt_zero _)⟩, ⟨f5, (z_up_ne (by omega)).trans a6, fun i hi => absurd hi (Nat.not_lt_zero _)⟩⟩, zSame.rf.up (by omega) (by omega)⟩
def zupd (f : Nat → Nat) (k v : Nat) : Nat → Nat := fun j => if j = k then v else f j
def pAddH (P : zP) (w : Nat) : zP := (pH P + 1, pR P, pTw P, pTi P, pRe P, zupd (pW P) (pH P) w, pHo P, pBe P, pBu P, pIl P)
theorem z_updI {f : Nat → Int32} {F : Nat → Nat} {N w : Nat} (hf : ∀ i, i < N → f i = nI (F i)) : ∀ i, i < N + 1 → upd f N (nI w) i = nI (zupd F N w i) := by
  intro i hi
  by_cases q : i = N
  · rw [q, pk_us, zupd, if_pos rfl]
  · rw [pk_un q, zupd, if_neg q, hf i (by omega)]
theorem r_X2_addHour {w : Nat} (hP : isPar h p P) (hp : p + 5 < n) (hH : pH P < 4) : zRex K l 0 mX2_addHour [.ref p, .int (nI w)] n h (fun v h' => v = none ∧ isPar h' p (pAddH P w) ∧ zSame p (p + 5) h h') := by
  refine zRex.of (by decide) (Nat.le_of_ble_eq_true rfl) (fun Q hQ => ?_)
  obtain ⟨h1, ⟨f1, a2, b2⟩, ⟨f2, a3, b3⟩, ⟨f3, a4, b4⟩, ⟨f4, a5, b5⟩, ⟨f5, a6, b6⟩⟩ := id hP
  refine kX2_addHour_0 ?_
  refine zb_go (zg_aload_n rfl) rfl ?_
  refine zb_go (zg_getfield fX2_9 (by first | assumption | decide | omega) (by repeat (first | assumption | exact z_up_self _ _ _ | refine (z_up_ne (by first | decide | omega)).trans ?_)) (by rfl)) rfl ?_
  refine zb_go (zg_iconst 4 (by decide)) rfl ?_
  refine zb_br (zg_icmp_ge (tgt := 28) (by decide)) rfl (fun c => ?_) (fun c => ?_)
  · exact absurd c (nI_ge hH (by decide))
  · refine zb_go (zg_aload_n rfl) rfl ?_
    refine zb_go (zg_getfield fX2_27 (by first | assumption | decide | omega) (by repeat (first | assumption | exact z_up_self _ _ _ | refine (z_up_ne (by first | decide | omega)).trans ?_)) (by rfl)) rfl ?_
    refine zb_go (zg_aload_n rfl) rfl ?_
    refine zb_go (zg_getfield fX2_9 (by first | assumption | decide | omega) (by repeat (first | assumption | exact z_up_self _ _ _ | refine (z_up_ne (by first | decide | omega)).trans ?_)) (by rfl)) rfl ?_
    refine zb_go (zg_iload_n rfl) rfl ?_
    refine zb_go (zi_iastore (by first | assumption | decide | omega) (by repeat (first | assumption | exact z_up_self _ _ _ | refine (z_up_ne (by first | decide | omega)).trans ?_)) (by first | assumption | exact zIx.nI (by omega) (by decide) | exact ⟨by decide, by decide⟩)) rfl ?_
    refine zb_go (zg_aload_n rfl) rfl ?_
    refine zb_go (zg_dup rfl) rfl ?_
    refine zb_go (zg_getfield fX2_9 (by first | assumption | decide | omega) (by repeat (first | assumption | exact z_up_self _ _ _ | refine (z_up_ne (by first | decide | omega)).trans ?_)) (by rfl)) rfl ?_
    refine zb_go (zg_iconst 1 (by decide)) rfl ?_
    refine zb_go zg_iadd rfl ?_
    refine zb_go (zg_putfield fX2_9 (by first | assumption | decide | omega) (by repeat (first | assumption | exact z_up_self _ _ _ | refine (z_up_ne (by first | decide | omega)).trans ?_)) (by exact Nat.le_of_ble_eq_true rfl) (by rfl) (by rfl) (by first | exact Or.inl rfl | exact Or.inr ⟨rfl, rfl⟩)) rfl ?_
    refine zb_out ?_
    refine kX2_addHour_28 ?_
    refine zb_end (zg_return rfl ?_) rfl
    rw [nI_1]
    refine hQ _ _ ⟨rfl, ⟨z_up_self _ _ _, ⟨_, (z_up_ne (by omega)).trans (z_up_self _ _ _), z_updI b2⟩, ⟨f2, (z_up_ne (by omega)).trans ((z_up_ne (by omega)).trans a3), b3⟩, ⟨f3, (z_up_ne (by omega)).trans ((z_up_ne (by omega)).trans a4), b4⟩, ⟨f4, (z_up_ne (by omega)).trans ((z_up_ne (by omega)).trans a5), b5⟩, ⟨f5, (z_up_ne (by omega)).trans ((z_up_ne (by omega)).trans a6), b6⟩⟩, (zSame.rf.up (by omega) (by omega)).up (by omega) (by omega)⟩
def pAddR (P : zP) (a b u i : Nat) : zP := (pH P, pR P + 1, pTw P, pTi P, pRe P, pW P, zupd (pHo P) (pR P) a, zupd (pBe P) (pR P) b, zupd (pBu P) (pR P) u, zupd (pIl P) (pR P) i)
theorem r_X2_addRinger {a b u i : Nat} (hP : isPar h p P) (hp : p + 5 < n) (hR : pR P < 6) : zRex K l 0 mX2_addRinger [.ref p, .int (nI a), .int (nI b), .int (nI u), .int (nI i)] n h (fun v h' => v = none ∧ isPar h' p (pAddR P a b u i) ∧ zSame p (p + 5) h h') := by
  refine zRex.of (by decide) (Nat.le_of_ble_eq_true rfl) (fun Q hQ => ?_)
  obtain ⟨h1, ⟨f1, a2, b2⟩, ⟨f2, a3, b3⟩, ⟨f3, a4, b4⟩, ⟨f4, a5, b5⟩, ⟨f5, a6, b6⟩⟩ := id hP
  refine kX2_addRinger_0 ?_
  refine zb_go (zg_aload_n rfl) rfl ?_
  refine zb_go (zg_getfield fX2_15 (by first | assumption | decide | omega) (by repeat (first | assumption | exact z_up_self _ _ _ | refine (z_up_ne (by first | decide | omega)).trans ?_)) (by rfl)) rfl ?_
  refine zb_go (zg_bipush 6 (by decide)) rfl ?_
  refine zb_br (zg_icmp_ge (tgt := 60) (by decide)) rfl (fun c => ?_) (fun c => ?_)
  · exact absurd c (nI_ge hR (by decide))
  · refine zb_go (zg_aload_n rfl) rfl ?_
    refine zb_go (zg_getfield fX2_31 (by first | assumption | decide | omega) (by repeat (first | assumption | exact z_up_self _ _ _ | refine (z_up_ne (by first | decide | omega)).trans ?_)) (by rfl)) rfl ?_
    refine zb_go (zg_aload_n rfl) rfl ?_
    refine zb_go (zg_getfield fX2_15 (by first | assumption | decide | omega) (by repeat (first | assumption | exact z_up_self _ _ _ | refine (z_up_ne (by first | decide | omega)).trans ?_)) (by rfl)) rfl ?_
    refine zb_go (zg_iload_n rfl) rfl ?_
    refine zb_go (zi_iastore (by first | assumption | decide | omega) (by repeat (first | assumption | exact z_up_self _ _ _ | refine (z_up_ne (by first | decide | omega)).trans ?_)) (by first | assumption | exact zIx.nI (by omega) (by decide) | exact ⟨by decide, by decide⟩)) rfl ?_
    refine zb_go (zg_aload_n rfl) rfl ?_
    refine zb_go (zg_getfield fX2_34 (by first | assumption | decide | omega) (by repeat (first | assumption | exact z_up_self _ _ _ | refine (z_up_ne (by first | decide | omega)).trans ?_)) (by rfl)) rfl ?_
    refine zb_go (zg_aload_n rfl) rfl ?_
    refine zb_go (zg_getfield fX2_15 (by first | assumption | decide | omega) (by repeat (first | assumption | exact z_up_self _ _ _ | refine (z_up_ne (by first | decide | omega)).trans ?_)) (by rfl)) rfl ?_
    refine zb_go (zg_iload_n rfl) rfl ?_
    refine zb_go (zi_iastore (by first | assumption | decide | omega) (by repeat (first | assumption | exact z_up_self _ _ _ | refine (z_up_ne (by first | decide | omega)).trans ?_)) (by first | assumption | exact zIx.nI (by omega) (by decide) | exact ⟨by decide, by decide⟩)) rfl ?_
    refine zb_go (zg_aload_n rfl) rfl ?_
    refine zb_go (zg_getfield fX2_37 (by first | assumption | decide | omega) (by repeat (first | assumption | exact z_up_self _ _ _ | refine (z_up_ne (by first | decide | omega)).trans ?_)) (by rfl)) rfl ?_
    refine zb_go (zg_aload_n rfl) rfl ?_
    refine zb_go (zg_getfield fX2_15 (by first | assumption | decide | omega) (by repeat (first | assumption | exact z_up_self _ _ _ | refine (z_up_ne (by first | decide | omega)).trans ?_)) (by rfl)) rfl ?_
    refine zb_go (zg_iload_n rfl) rfl ?_
    refine zb_go (zi_iastore (by first | assumption | decide | omega) (by repeat (first | assumption | exact z_up_self _ _ _ | refine (z_up_ne (by first | decide | omega)).trans ?_)) (by first | assumption | exact zIx.nI (by omega) (by decide) | exact ⟨by decide, by decide⟩)) rfl ?_
    refine zb_go (zg_aload_n rfl) rfl ?_
    refine zb_go (zg_getfield fX2_40 (by first | assumption | decide | omega) (by repeat (first | assumption | exact z_up_self _ _ _ | refine (z_up_ne (by first | decide | omega)).trans ?_)) (by rfl)) rfl ?_
    refine zb_go (zg_aload_n rfl) rfl ?_
    refine zb_go (zg_getfield fX2_15 (by first | assumption | decide | omega) (by repeat (first | assumption | exact z_up_self _ _ _ | refine (z_up_ne (by first | decide | omega)).trans ?_)) (by rfl)) rfl ?_
    refine zb_go (zg_iload rfl) rfl ?_
    refine zb_go (zi_iastore (by first | assumption | decide | omega) (by repeat (first | assumption | exact z_up_self _ _ _ | refine (z_up_ne (by first | decide | omega)).trans ?_)) (by first | assumption | exact zIx.nI (by omega) (by decide) | exact ⟨by decide, by decide⟩)) rfl ?_
    refine zb_go (zg_aload_n rfl) rfl ?_
    refine zb_go (zg_dup rfl) rfl ?_
    refine zb_go (zg_getfield fX2_15 (by first | assumption | decide | omega) (by repeat (first | assumption | exact z_up_self _ _ _ | refine (z_up_ne (by first | decide | omega)).trans ?_)) (by rfl)) rfl ?_
    refine zb_go (zg_iconst 1 (by decide)) rfl ?_
    refine zb_go zg_iadd rfl ?_
    refine zb_go (zg_putfield fX2_15 (by first | assumption | decide | omega) (by repeat (first | assumption | exact z_up_self _ _ _ | refine (z_up_ne (by first | decide | omega)).trans ?_)) (by exact Nat.le_of_ble_eq_true rfl) (by rfl) (by rfl) (by first | exact Or.inl rfl | exact Or.inr ⟨rfl, rfl⟩)) rfl ?_
    refine zb_out ?_
    refine kX2_addRinger_60 ?_
    refine zb_end (zg_return rfl ?_) rfl
    rw [nI_1]
    have e1 : ∀ {x : zH} {k j : Nat} {e e' : va_E}, j ≠ k → x j = e' → z_up x k e j = e' := fun hj hy => (z_up_ne hj).trans hy
    refine hQ _ _ ⟨rfl, ⟨z_up_self _ _ _, ⟨f1, e1 (by omega) (e1 (by omega) (e1 (by omega) (e1 (by omega) (e1 (by omega) a2)))), b2⟩, ⟨_, e1 (by omega) (e1 (by omega) (e1 (by omega) (e1 (by omega) (z_up_self _ _ _)))), z_updI b3⟩, ⟨_, e1 (by omega) (e1 (by omega) (e1 (by omega) (z_up_self _ _ _))), z_updI b4⟩, ⟨_, e1 (by omega) (e1 (by omega) (z_up_self _ _ _)), z_updI b5⟩, ⟨_, e1 (by omega) (z_up_self _ _ _), z_updI b6⟩⟩, ((((zSame.rf.up (by omega) (by omega)).up (by omega) (by omega)).up (by omega) (by omega)).up (by omega) (by omega)).up (by omega) (by omega)⟩
end
