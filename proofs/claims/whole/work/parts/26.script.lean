/-! SCRIPT (4): an item told, the whole text read; parish -/
section
variable {K : zK} {l : Launch} {n p q i : Nat} {len : Nat} {f tx nu to : Nat → Int32} {h : zH} {fa pl x y : Int32} {P : zP} {tob : Nat → Bool} {G : zS}
theorem isPar.sameS {h1 : zH} (hP : isPar h q P) (hq : 5 ≤ q) (s : zSame 1 4 h h1) : isPar h1 q P := hP.same s (by omega)
theorem r_X4_tell {k : Nat} {vs : List Nat} (hk : k < 5) (hs : isScript h (nI len) pl fa tx nu to) (ht : ∀ j, j < 5 → to j = if tob j then 1 else 0) (hq : isPar h q P) (hqn : q + 5 < 59) (hq5 : 5 ≤ q) (hm : pMay P tob k = true) (hvl : vs.length = (pBounds k).length) (hv : ∀ t, t < vs.length → nu t = nI (vs.getD t 0)) : zRex K l 1 mX4_tell [.ref 1, .int (nI k), .ref q] 59 h (fun v h' => v = none ∧ zSame2 q h h' ∧ isPar h' q (pTell P k vs) ∧ ∃ to', isScript h' (nI len) pl fa tx nu to' ∧ ∀ j, j < 5 → to' j = if bupd tob k j then 1 else 0) := by
  refine zRex.of (by decide) (Nat.le_of_ble_eq_true rfl) (fun Q hQ => ?_)
  obtain ⟨h1, h2, h3, h4⟩ := id hs
  have hs1 : isScript (z_up h 4 (.inl (3, 5, .inl (upd to k 1)))) (nI len) pl fa tx nu (upd to k 1) := ⟨(z_up_ne (by decide)).trans h1, (z_up_ne (by decide)).trans h2, (z_up_ne (by decide)).trans h3, z_up_self _ _ _⟩
  have ht1 : ∀ j, j < 5 → upd to k 1 j = if bupd tob k j then 1 else 0 := by
    intro j hj
    by_cases e : j = k
    · rw [e, pk_us]; simp [bupd]
    · rw [pk_un e, bupd, if_neg e]; exact ht j hj
  have sm1 : zSame 1 4 h (z_up h 4 (.inl (3, 5, .inl (upd to k 1)))) := zSame.rf.up (by omega) (by omega)
  have hq1 := hq.sameS hq5 sm1
  generalize hg : z_up h 4 (.inl (3, 5, .inl (upd to k 1))) = g at hs1 sm1 hq1
  obtain ⟨g1, g2, g3, g4⟩ := id hs1
  obtain ⟨q1, ⟨f1, a2, b2⟩, ⟨f2, a3, b3⟩, ⟨f3, a4, b4⟩, ⟨f4, a5, b5⟩, ⟨f5, a6, b6⟩⟩ := id hq1
  refine kX4_tell_0 ?_
  refine zb_go (zg_aload_n rfl) rfl ?_
  refine zb_go (zg_getfield fX4_29 (by first | assumption | decide | omega) (by repeat (first | assumption | exact z_up_self _ _ _ | refine (z_up_ne (by first | decide | omega)).trans ?_)) (by rfl)) rfl ?_
  refine zb_go (zg_iload_n rfl) rfl ?_
  refine zb_go (zg_iconst 1 (by decide)) rfl ?_
  refine zb_go (zi_zastore (y := 1) (by first | assumption | decide | omega) (by repeat (first | assumption | exact z_up_self _ _ _ | refine (z_up_ne (by first | decide | omega)).trans ?_)) (zIx.nI hk (by decide)) (by decide)) rfl ?_
  refine zb_go (zg_iload_n rfl) rfl ?_
  rw [hg]
  rcases (show k = 0 ∨ k = 1 ∨ k = 2 ∨ k = 3 ∨ k = 4 by omega) with rfl | rfl | rfl | rfl | rfl
  · have v0 := hv 0 (by rw [hvl]; decide)
    have hH : pH P < 4 := by simpa [pMay] using hm
    refine zb_end (len := 32) (zg_tableIn 32 40 (by decide) (by decide) (by rfl) (by decide) ?_) rfl
    refine kX4_tell_40 ?_
    refine zb_go (zg_aload_n rfl) rfl ?_
    refine zb_go (zg_aload_n rfl) rfl ?_
    refine zb_go (zg_getfield fX4_25 (by first | assumption | decide | omega) (by repeat (first | assumption | exact z_up_self _ _ _ | refine (z_up_ne (by first | decide | omega)).trans ?_)) (by rfl)) rfl ?_
    refine zb_go (zg_iconst 0 (by decide)) rfl ?_
    refine zb_go (zi_iaload (by first | assumption | decide | omega) (by repeat (first | assumption | exact z_up_self _ _ _ | refine (z_up_ne (by first | decide | omega)).trans ?_)) (by first | assumption | exact zIx.nI (by omega) (by decide) | exact ⟨by decide, by decide⟩ | exact zIx.nI (k := 0) (by decide) (by decide) | exact zIx.nI (k := 1) (by decide) (by decide) | exact zIx.nI (k := 2) (by decide) (by decide) | exact zIx.nI (k := 3) (by decide) (by decide))) rfl ?_
    rw [v0]
    refine zb_callvx (r_X2_addHour hq1 hqn hH) lX4_110 (by repeat (first | assumption | exact z_up_self _ _ _ | refine (z_up_ne (by first | decide | omega)).trans ?_)) rfl rfl (by first | assumption | decide | omega) (by decide) rfl (Nat.le_of_ble_eq_true rfl) rfl ?_
    rintro v h5 ⟨rfl, hp5, sm5⟩
    refine zb_end (zg_goto (tgt := 120) (by decide) ?_) rfl
    refine kX4_tell_120 ?_
    refine zb_end (zg_return rfl ?_) rfl
    exact hQ _ _ ⟨rfl, sm1.two.trans sm5.twoP, hp5, _, hs1.sameP hq5 sm5, ht1⟩
  · have v0 := hv 0 (by rw [hvl]; decide)
    have v1 := hv 1 (by rw [hvl]; decide)
    have v2 := hv 2 (by rw [hvl]; decide)
    have v3 := hv 3 (by rw [hvl]; decide)
    have hH : pR P < 6 := by simpa [pMay] using hm
    refine zb_end (len := 32) (zg_tableIn 45 53 (by decide) (by decide) (by rfl) (by decide) ?_) rfl
    refine kX4_tell_53 ?_
    refine zb_go (zg_aload_n rfl) rfl ?_
    refine zb_go (zg_aload_n rfl) rfl ?_
    refine zb_go (zg_getfield fX4_25 (by first | assumption | decide | omega) (by repeat (first | assumption | exact z_up_self _ _ _ | refine (z_up_ne (by first | decide | omega)).trans ?_)) (by rfl)) rfl ?_
    refine zb_go (zg_iconst 0 (by decide)) rfl ?_
    refine zb_go (zi_iaload (by first | assumption | decide | omega) (by repeat (first | assumption | exact z_up_self _ _ _ | refine (z_up_ne (by first | decide | omega)).trans ?_)) (by first | assumption | exact zIx.nI (by omega) (by decide) | exact ⟨by decide, by decide⟩ | exact zIx.nI (k := 0) (by decide) (by decide) | exact zIx.nI (k := 1) (by decide) (by decide) | exact zIx.nI (k := 2) (by decide) (by decide) | exact zIx.nI (k := 3) (by decide) (by decide))) rfl ?_
    refine zb_go (zg_aload_n rfl) rfl ?_
    refine zb_go (zg_getfield fX4_25 (by first | assumption | decide | omega) (by repeat (first | assumption | exact z_up_self _ _ _ | refine (z_up_ne (by first | decide | omega)).trans ?_)) (by rfl)) rfl ?_
    refine zb_go (zg_iconst 1 (by decide)) rfl ?_
    refine zb_go (zi_iaload (by first | assumption | decide | omega) (by repeat (first | assumption | exact z_up_self _ _ _ | refine (z_up_ne (by first | decide | omega)).trans ?_)) (by first | assumption | exact zIx.nI (by omega) (by decide) | exact ⟨by decide, by decide⟩ | exact zIx.nI (k := 0) (by decide) (by decide) | exact zIx.nI (k := 1) (by decide) (by decide) | exact zIx.nI (k := 2) (by decide) (by decide) | exact zIx.nI (k := 3) (by decide) (by decide))) rfl ?_
    refine zb_go (zg_aload_n rfl) rfl ?_
    refine zb_go (zg_getfield fX4_25 (by first | assumption | decide | omega) (by repeat (first | assumption | exact z_up_self _ _ _ | refine (z_up_ne (by first | decide | omega)).trans ?_)) (by rfl)) rfl ?_
    refine zb_go (zg_iconst 2 (by decide)) rfl ?_
    refine zb_go (zi_iaload (by first | assumption | decide | omega) (by repeat (first | assumption | exact z_up_self _ _ _ | refine (z_up_ne (by first | decide | omega)).trans ?_)) (by first | assumption | exact zIx.nI (by omega) (by decide) | exact ⟨by decide, by decide⟩ | exact zIx.nI (k := 0) (by decide) (by decide) | exact zIx.nI (k := 1) (by decide) (by decide) | exact zIx.nI (k := 2) (by decide) (by decide) | exact zIx.nI (k := 3) (by decide) (by decide))) rfl ?_
    refine zb_go (zg_aload_n rfl) rfl ?_
    refine zb_go (zg_getfield fX4_25 (by first | assumption | decide | omega) (by repeat (first | assumption | exact z_up_self _ _ _ | refine (z_up_ne (by first | decide | omega)).trans ?_)) (by rfl)) rfl ?_
    refine zb_go (zg_iconst 3 (by decide)) rfl ?_
    refine zb_go (zi_iaload (by first | assumption | decide | omega) (by repeat (first | assumption | exact z_up_self _ _ _ | refine (z_up_ne (by first | decide | omega)).trans ?_)) (by first | assumption | exact zIx.nI (by omega) (by decide) | exact ⟨by decide, by decide⟩ | exact zIx.nI (k := 0) (by decide) (by decide) | exact zIx.nI (k := 1) (by decide) (by decide) | exact zIx.nI (k := 2) (by decide) (by decide) | exact zIx.nI (k := 3) (by decide) (by decide))) rfl ?_
    rw [v0, v1, v2, v3]
    refine zb_callvx (r_X2_addRinger hq1 hqn hH) lX4_113 (by repeat (first | assumption | exact z_up_self _ _ _ | refine (z_up_ne (by first | decide | omega)).trans ?_)) rfl rfl (by first | assumption | decide | omega) (by decide) rfl (Nat.le_of_ble_eq_true rfl) rfl ?_
    rintro v h5 ⟨rfl, hp5, sm5⟩
    refine zb_end (zg_goto (tgt := 120) (by decide) ?_) rfl
    refine kX4_tell_120 ?_
    refine zb_end (zg_return rfl ?_) rfl
    exact hQ _ _ ⟨rfl, sm1.two.trans sm5.twoP, hp5, _, hs1.sameP hq5 sm5, ht1⟩
  · have v0 := hv 0 (by rw [hvl]; decide)
    refine zb_end (len := 32) (zg_tableIn 76 84 (by decide) (by decide) (by rfl) (by decide) ?_) rfl
    refine kX4_tell_84 ?_
    refine zb_go (zg_aload_n rfl) rfl ?_
    refine zb_go (zg_aload_n rfl) rfl ?_
    refine zb_go (zg_getfield fX4_25 (by first | assumption | decide | omega) (by repeat (first | assumption | exact z_up_self _ _ _ | refine (z_up_ne (by first | decide | omega)).trans ?_)) (by rfl)) rfl ?_
    refine zb_go (zg_iconst 0 (by decide)) rfl ?_
    refine zb_go (zi_iaload (by first | assumption | decide | omega) (by repeat (first | assumption | exact z_up_self _ _ _ | refine (z_up_ne (by first | decide | omega)).trans ?_)) (by first | assumption | exact zIx.nI (by omega) (by decide) | exact ⟨by decide, by decide⟩ | exact zIx.nI (k := 0) (by decide) (by decide) | exact zIx.nI (k := 1) (by decide) (by decide) | exact zIx.nI (k := 2) (by decide) (by decide) | exact zIx.nI (k := 3) (by decide) (by decide))) rfl ?_
    refine zb_go (zg_putfield fX4_117 (by first | assumption | decide | omega) (by repeat (first | assumption | exact z_up_self _ _ _ | refine (z_up_ne (by first | decide | omega)).trans ?_)) (by exact Nat.le_of_ble_eq_true rfl) (by rfl) (by rfl) (by first | exact Or.inl rfl | exact Or.inr ⟨rfl, rfl⟩)) rfl ?_
    refine zb_end (zg_goto (tgt := 120) (by decide) ?_) rfl
    refine kX4_tell_120 ?_
    refine zb_end (zg_return rfl ?_) rfl
    rw [v0]
    have sm5 : zSame q (q + 5) g (z_up g q (.inr (1, [.int (nI (pH P)), .int (nI (pR P)), .int (nI (vs.getD 0 0)), .int (nI (pTi P)), .int (nI (pRe P)), .ref (q + 1), .ref (q + 2), .ref (q + 3), .ref (q + 4), .ref (q + 5)]))) := zSame.rf.up (by omega) (by omega)
    exact hQ _ _ ⟨rfl, sm1.two.trans sm5.twoP, ⟨z_up_self _ _ _, ⟨f1, (z_up_ne (by omega)).trans a2, b2⟩, ⟨f2, (z_up_ne (by omega)).trans a3, b3⟩, ⟨f3, (z_up_ne (by omega)).trans a4, b4⟩, ⟨f4, (z_up_ne (by omega)).trans a5, b5⟩, ⟨f5, (z_up_ne (by omega)).trans a6, b6⟩⟩, _, hs1.sameP hq5 sm5, ht1⟩
  · have v0 := hv 0 (by rw [hvl]; decide)
    refine zb_end (len := 32) (zg_tableIn 89 97 (by decide) (by decide) (by rfl) (by decide) ?_) rfl
    refine kX4_tell_97 ?_
    refine zb_go (zg_aload_n rfl) rfl ?_
    refine zb_go (zg_aload_n rfl) rfl ?_
    refine zb_go (zg_getfield fX4_25 (by first | assumption | decide | omega) (by repeat (first | assumption | exact z_up_self _ _ _ | refine (z_up_ne (by first | decide | omega)).trans ?_)) (by rfl)) rfl ?_
    refine zb_go (zg_iconst 0 (by decide)) rfl ?_
    refine zb_go (zi_iaload (by first | assumption | decide | omega) (by repeat (first | assumption | exact z_up_self _ _ _ | refine (z_up_ne (by first | decide | omega)).trans ?_)) (by first | assumption | exact zIx.nI (by omega) (by decide) | exact ⟨by decide, by decide⟩ | exact zIx.nI (k := 0) (by decide) (by decide) | exact zIx.nI (k := 1) (by decide) (by decide) | exact zIx.nI (k := 2) (by decide) (by decide) | exact zIx.nI (k := 3) (by decide) (by decide))) rfl ?_
    refine zb_go (zg_putfield fX4_119 (by first | assumption | decide | omega) (by repeat (first | assumption | exact z_up_self _ _ _ | refine (z_up_ne (by first | decide | omega)).trans ?_)) (by exact Nat.le_of_ble_eq_true rfl) (by rfl) (by rfl) (by first | exact Or.inl rfl | exact Or.inr ⟨rfl, rfl⟩)) rfl ?_
    refine zb_end (zg_goto (tgt := 120) (by decide) ?_) rfl
    refine kX4_tell_120 ?_
    refine zb_end (zg_return rfl ?_) rfl
    rw [v0]
    have sm5 : zSame q (q + 5) g (z_up g q (.inr (1, [.int (nI (pH P)), .int (nI (pR P)), .int (nI (pTw P)), .int (nI (vs.getD 0 0)), .int (nI (pRe P)), .ref (q + 1), .ref (q + 2), .ref (q + 3), .ref (q + 4), .ref (q + 5)]))) := zSame.rf.up (by omega) (by omega)
    exact hQ _ _ ⟨rfl, sm1.two.trans sm5.twoP, ⟨z_up_self _ _ _, ⟨f1, (z_up_ne (by omega)).trans a2, b2⟩, ⟨f2, (z_up_ne (by omega)).trans a3, b3⟩, ⟨f3, (z_up_ne (by omega)).trans a4, b4⟩, ⟨f4, (z_up_ne (by omega)).trans a5, b5⟩, ⟨f5, (z_up_ne (by omega)).trans a6, b6⟩⟩, _, hs1.sameP hq5 sm5, ht1⟩
  · have v0 := hv 0 (by rw [hvl]; decide)
    have ho : (nI 4).toInt < 0 ∨ 3 < (nI 4).toInt := Or.inr (by decide)
    refine zb_end (len := 32) (zg_tableOut 110 ho (by decide) ?_) rfl
    refine kX4_tell_110 ?_
    refine zb_go (zg_aload_n rfl) rfl ?_
    refine zb_go (zg_aload_n rfl) rfl ?_
    refine zb_go (zg_getfield fX4_25 (by first | assumption | decide | omega) (by repeat (first | assumption | exact z_up_self _ _ _ | refine (z_up_ne (by first | decide | omega)).trans ?_)) (by rfl)) rfl ?_
    refine zb_go (zg_iconst 0 (by decide)) rfl ?_
    refine zb_go (zi_iaload (by first | assumption | decide | omega) (by repeat (first | assumption | exact z_up_self _ _ _ | refine (z_up_ne (by first | decide | omega)).trans ?_)) (by first | assumption | exact zIx.nI (by omega) (by decide) | exact ⟨by decide, by decide⟩ | exact zIx.nI (k := 0) (by decide) (by decide) | exact zIx.nI (k := 1) (by decide) (by decide) | exact zIx.nI (k := 2) (by decide) (by decide) | exact zIx.nI (k := 3) (by decide) (by decide))) rfl ?_
    refine zb_go (zg_putfield fX4_121 (by first | assumption | decide | omega) (by repeat (first | assumption | exact z_up_self _ _ _ | refine (z_up_ne (by first | decide | omega)).trans ?_)) (by exact Nat.le_of_ble_eq_true rfl) (by rfl) (by rfl) (by first | exact Or.inl rfl | exact Or.inr ⟨rfl, rfl⟩)) rfl ?_
    refine zb_out ?_
    refine kX4_tell_120 ?_
    refine zb_end (zg_return rfl ?_) rfl
    rw [v0]
    have sm5 : zSame q (q + 5) g (z_up g q (.inr (1, [.int (nI (pH P)), .int (nI (pR P)), .int (nI (pTw P)), .int (nI (pTi P)), .int (nI (vs.getD 0 0)), .ref (q + 1), .ref (q + 2), .ref (q + 3), .ref (q + 4), .ref (q + 5)]))) := zSame.rf.up (by omega) (by omega)
    exact hQ _ _ ⟨rfl, sm1.two.trans sm5.twoP, ⟨z_up_self _ _ _, ⟨f1, (z_up_ne (by omega)).trans a2, b2⟩, ⟨f2, (z_up_ne (by omega)).trans a3, b3⟩, ⟨f3, (z_up_ne (by omega)).trans a4, b4⟩, ⟨f4, (z_up_ne (by omega)).trans a5, b5⟩, ⟨f5, (z_up_ne (by omega)).trans a6, b6⟩⟩, _, hs1.sameP hq5 sm5, ht1⟩
theorem r_X4_readItem (hK : zKok K) (hs : isScript h (nI len) (nI i) (-1) tx nu to) (hl : len ≤ 200) (hi : i ≤ len) (hf : ∀ j, j < len → tx j = f j) (ht : ∀ j, j < 5 → to j = if tob j then 1 else 0) (hq : isPar h q P) (hqn : q + 5 < 59) (hq5 : 5 ≤ q) (ok : okP P) : zRex K l 6 mX4_readItem [.ref 1, .ref q] 59 h (fun v h' => v = none ∧ zSame2 q h h' ∧
    Sum.elim (fun x => ∃ k nu' to' P', k ≤ len ∧ isScript h' (nI len) (nI k) (nI x) tx nu' to' ∧ isPar h' q P') (fun r => ∃ nu' to', isScript h' (nI len) (nI r.2.2) (-1) tx nu' to' ∧ (∀ j, j < 5 → to' j = if r.2.1 j then 1 else 0) ∧ isPar h' q r.1) (pItem f len P tob i)) := by
  refine zRex.of (by decide) (Nat.le_of_ble_eq_true rfl) (fun Q hQ => ?_)
  obtain ⟨h1, h2, h3, h4⟩ := id hs
  have hge := pLt_le (f := f) hi
  refine kX4_readItem_0 ?_
  refine zb_go (zg_aload_n rfl) rfl ?_
  refine zb_go (zg_getfield fX4_19 (by first | assumption | decide | omega) (by repeat (first | assumption | exact z_up_self _ _ _ | refine (z_up_ne (by first | decide | omega)).trans ?_)) (by rfl)) rfl ?_
  refine zb_go (zg_istore_n (by decide)) rfl ?_
  refine zb_go (zg_aload_n rfl) rfl ?_
  refine zb_callvx (r_X4_kindOfWord hK hs hl hi hf) lX4_45 (by repeat (first | assumption | exact z_up_self _ _ _ | refine (z_up_ne (by first | decide | omega)).trans ?_)) rfl rfl (by first | assumption | decide | omega) (by decide) rfl (Nat.le_of_ble_eq_true rfl) rfl ?_
  rintro v g ⟨rfl, hs1, sm1⟩
  have hq1 := hq.sameS hq5 sm1
  obtain ⟨g1, g2, g3, g4⟩ := id hs1
  have bad : pItem f len P tob i = .inl i → ∀ z : Value, zGo K l 6 mX4_readItem 25 [(0, .ref 1), (1, .ref q), (2, .int (nI i)), (3, z)] [] 59 g 0 0 Q := by
    intro e z
    refine kX4_readItem_25 ?_
    refine zb_go (zg_aload_n rfl) rfl ?_
    refine zb_go (zg_iload_n rfl) rfl ?_
    refine zb_go (zg_putfield fX4_22 (by first | assumption | decide | omega) (by repeat (first | assumption | exact z_up_self _ _ _ | refine (z_up_ne (by first | decide | omega)).trans ?_)) (by exact Nat.le_of_ble_eq_true rfl) (by rfl) (by rfl) (by first | exact Or.inl rfl | exact Or.inr ⟨rfl, rfl⟩)) rfl ?_
    refine zb_end (zg_return rfl ?_) rfl
    refine hQ _ _ ⟨rfl, (sm1.up (by omega) (by omega)).two, ?_⟩
    rw [e]
    exact ⟨_, nu, to, P, hge, hs1.setFa, hq1.sameS hq5 (zSame.rf.up (by omega) (by omega))⟩
  cases ek : pKind f len i with
  | none =>
    refine zb_go (zg_istore_n (by decide)) rfl ?_
    refine zb_go (zg_iload_n rfl) rfl ?_
    refine zb_go (zg_bipush (-9) (by decide)) rfl ?_
    refine zb_br (zg_icmp_eq (tgt := 25) (by decide)) rfl (fun c0 => ?_) (fun c0 => ?_)
    · exact bad (by unfold pItem; rw [ek]) _
    · exact absurd rfl c0
  | some k =>
    have hk5 := pKind_lt ek
    refine zb_go (zg_istore_n (by decide)) rfl ?_
    refine zb_go (zg_iload_n rfl) rfl ?_
    refine zb_go (zg_bipush (-9) (by decide)) rfl ?_
    refine zb_br (zg_icmp_eq (tgt := 25) (by decide)) rfl (fun c0 => ?_) (fun c0 => ?_)
    · exact absurd (c0 : nI k = -9) (nI_ne9 (by omega))
    · refine zb_go (zg_aload_n rfl) rfl ?_
      refine zb_go (zg_iload_n rfl) rfl ?_
      refine zb_go (zg_aload_n rfl) rfl ?_
      refine zb_callv (r_X4_mayStand hk5 hs1 ht hq1 hqn ok) lX4_49 (by repeat (first | assumption | exact z_up_self _ _ _ | refine (z_up_ne (by first | decide | omega)).trans ?_)) rfl rfl (by first | assumption | decide | omega) (by decide) rfl (Nat.le_of_ble_eq_true rfl) rfl ?_
      refine zb_br (zg_if_ne (tgt := 31) (by decide)) rfl (fun c1 => ?_) (fun c1 => ?_)
      · have hm : pMay P tob k = true := by
          cases e : pMay P tob k with
          | true => rfl
          | false => rw [e] at c1; exact absurd rfl c1
        refine kX4_readItem_31 ?_
        refine zb_go (zg_aload_n rfl) rfl ?_
        refine zb_go (zg_iload_n rfl) rfl ?_
        refine zb_callvx (r_X4_readNumbers (f := f) hk5 hs1 hl hge hf) lX4_53 (by repeat (first | assumption | exact z_up_self _ _ _ | refine (z_up_ne (by first | decide | omega)).trans ?_)) rfl rfl (by first | assumption | decide | omega) (by decide) rfl (Nat.le_of_ble_eq_true rfl) rfl ?_
        rintro v h5 ⟨rfl, sm5, he⟩
        have hq5' := hq1.sameS hq5 sm5
        have pn := pNums_le (f := f) (pBounds k) hge
        cases en : pNums f len (pBounds k) (pLt f len i) with
        | inl x =>
          rw [en] at he pn
          obtain ⟨k1, nu1, hk1, hs5⟩ := he
          have hx : x ≤ len := pn
          have c5 := hs5.1
          refine zb_go (zg_aload_n rfl) rfl ?_
          refine zb_callvx (r_X4_readEnd (f := f) hs5 hl hk1 hf) lX4_57 (by repeat (first | assumption | exact z_up_self _ _ _ | refine (z_up_ne (by first | decide | omega)).trans ?_)) rfl rfl (by first | assumption | decide | omega) (by decide) rfl (Nat.le_of_ble_eq_true rfl) rfl ?_
          rintro v h6 ⟨rfl, sm6, ⟨-, k2, hk2, hs6⟩ | ⟨z, -⟩⟩
          rotate_left
          · exact absurd z (z_ne1 (by omega))
          have c6 := hs6.1
          refine zb_go (zg_aload_n rfl) rfl ?_
          refine zb_go (zg_getfield fX4_22 (by first | assumption | decide | omega) (by repeat (first | assumption | exact z_up_self _ _ _ | refine (z_up_ne (by first | decide | omega)).trans ?_)) (by rfl)) rfl ?_
          refine zb_go (zg_iconst (-1) (by decide)) rfl ?_
          refine zb_br (zg_icmp_ne (tgt := 54) (by decide)) rfl (fun c2 => ?_) (fun c2 => ?_)
          · refine kX4_readItem_54 ?_
            refine zb_end (zg_return rfl ?_) rfl
            refine hQ _ _ ⟨rfl, ((sm1.trans sm5).trans sm6).two, ?_⟩
            rw [show pItem f len P tob i = .inl x by unfold pItem; rw [ek]; simp only [hm, en]; rfl]
            exact ⟨k2, nu1, to, P, hk2, hs6, hq5'.sameS hq5 sm6⟩
          · exact absurd c2 (z_ne1 (by omega))
        | inr r =>
          obtain ⟨vs, j⟩ := r
          rw [en] at he pn
          obtain ⟨nu1, hs5, hnu⟩ := he
          obtain ⟨b1, b2, b3, b4⟩ := pn
          have c5 := hs5.1
          have pe := pEnd_le (f := f) b4
          refine zb_go (zg_aload_n rfl) rfl ?_
          refine zb_callvx (r_X4_readEnd (f := f) hs5 hl b4 hf) lX4_57 (by repeat (first | assumption | exact z_up_self _ _ _ | refine (z_up_ne (by first | decide | omega)).trans ?_)) rfl rfl (by first | assumption | decide | omega) (by decide) rfl (Nat.le_of_ble_eq_true rfl) rfl ?_
          rintro v h6 ⟨rfl, sm6, ⟨z, -⟩ | ⟨-, he6⟩⟩
          · exact absurd rfl z
          have hq6 := hq5'.sameS hq5 sm6
          cases ee : pEnd f len j with
          | inl x =>
            rw [ee] at he6 pe
            obtain ⟨k2, hk2, hs6⟩ := he6
            have hx : x ≤ len := pe
            have c6 := hs6.1
            refine zb_go (zg_aload_n rfl) rfl ?_
            refine zb_go (zg_getfield fX4_22 (by first | assumption | decide | omega) (by repeat (first | assumption | exact z_up_self _ _ _ | refine (z_up_ne (by first | decide | omega)).trans ?_)) (by rfl)) rfl ?_
            refine zb_go (zg_iconst (-1) (by decide)) rfl ?_
            refine zb_br (zg_icmp_ne (tgt := 54) (by decide)) rfl (fun c2 => ?_) (fun c2 => ?_)
            · refine kX4_readItem_54 ?_
              refine zb_end (zg_return rfl ?_) rfl
              refine hQ _ _ ⟨rfl, ((sm1.trans sm5).trans sm6).two, ?_⟩
              rw [show pItem f len P tob i = .inl x by unfold pItem; rw [ek]; simp only [hm, en, ee]; rfl]
              exact ⟨k2, nu1, to, P, hk2, hs6, hq6⟩
            · exact absurd c2 (z_ne1 (by omega))
          | inr e =>
            rw [ee] at he6
            have hs6 : isScript h6 (nI len) (nI e) (-1) tx nu1 to := he6
            have c6 := hs6.1
            refine zb_go (zg_aload_n rfl) rfl ?_
            refine zb_go (zg_getfield fX4_22 (by first | assumption | decide | omega) (by repeat (first | assumption | exact z_up_self _ _ _ | refine (z_up_ne (by first | decide | omega)).trans ?_)) (by rfl)) rfl ?_
            refine zb_go (zg_iconst (-1) (by decide)) rfl ?_
            refine zb_br (zg_icmp_ne (tgt := 54) (by decide)) rfl (fun c2 => ?_) (fun c2 => ?_)
            · exact absurd rfl c2
            · refine zb_go (zg_aload_n rfl) rfl ?_
              refine zb_go (zg_iload_n rfl) rfl ?_
              refine zb_go (zg_aload_n rfl) rfl ?_
              refine zb_callvx (r_X4_tell (vs := vs) hk5 hs6 ht hq6 hqn hq5 hm b1 hnu) lX4_60 (by repeat (first | assumption | exact z_up_self _ _ _ | refine (z_up_ne (by first | decide | omega)).trans ?_)) rfl rfl (by first | assumption | decide | omega) (by decide) rfl (Nat.le_of_ble_eq_true rfl) rfl ?_
              rintro v h7 ⟨rfl, sm7, hq7, to7, hs7, ht7⟩
              refine zb_out ?_
              refine kX4_readItem_54 ?_
              refine zb_end (zg_return rfl ?_) rfl
              refine hQ _ _ ⟨rfl, ((sm1.trans sm5).trans sm6).two.trans sm7, ?_⟩
              rw [show pItem f len P tob i = .inr (pTell P k vs, bupd tob k, e) by unfold pItem; rw [ek]; simp only [hm, en, ee]; rfl]
              exact ⟨nu1, to7, hs7, ht7, hq7⟩
      · have hm : pMay P tob k = false := by
          cases e : pMay P tob k with
          | false => rfl
          | true => rw [e] at c1; exact absurd c1 (by decide)
        refine zb_out ?_
        refine kX4_readItem_25 ?_
        refine zb_go (zg_aload_n rfl) rfl ?_
        refine zb_go (zg_iload_n rfl) rfl ?_
        refine zb_go (zg_putfield fX4_22 (by first | assumption | decide | omega) (by repeat (first | assumption | exact z_up_self _ _ _ | refine (z_up_ne (by first | decide | omega)).trans ?_)) (by exact Nat.le_of_ble_eq_true rfl) (by rfl) (by rfl) (by first | exact Or.inl rfl | exact Or.inr ⟨rfl, rfl⟩)) rfl ?_
        refine zb_end (zg_return rfl ?_) rfl
        refine hQ _ _ ⟨rfl, (sm1.up (by omega) (by omega)).two, ?_⟩
        rw [show pItem f len P tob i = .inl i by unfold pItem; rw [ek]; simp only [hm]; rfl]
        exact ⟨_, nu, to, P, hge, hs1.setFa, hq1.sameS hq5 (zSame.rf.up (by omega) (by omega))⟩
end
