/-! THE MODEL (10): mayFollow, follow, wantedFrom, isFirst -/
def isS (hb h' : zH) (tr : Int64) (ty : Int32) (X : zX) (pk se on tw th ru br rw : Nat → Int32) : Prop :=
  h' 34 = mObj tr ty X ∧ h' 51 = .inl (0, 4, .inl pk) ∧ h' 52 = .inl (0, 4, .inl se) ∧ h' 53 = .inl (0, 5, .inl on) ∧ h' 54 = .inl (0, 5, .inl tw) ∧ h' 55 = .inl (0, 5, .inl th) ∧ h' 56 = .inl (0, 5, .inl ru) ∧ h' 57 = .inl (0, 4, .inl br) ∧ h' 58 = .inl (0, 4, .inl rw) ∧ ∀ k, k ≠ 34 → (k < 51 ∨ 58 < k) → h' k = hb k
def pfx (k : Nat) (b : Nat → Nat) (se on tw th ru : Nat → Int32) : Prop := (∀ g, g < k → se g = nI (b g)) ∧ ∀ j, j ≤ k → on j = nI (zo1 b j) ∧ tw j = nI (zo2 b j) ∧ th j = nI (zo3 b j) ∧ ru j = nI (bRung b j)
theorem zo_congr {a b : Nat → Nat} : ∀ {k : Nat}, (∀ g, g < k → a g = b g) → zo1 a k = zo1 b k ∧ zo2 a k = zo2 b k ∧ zo3 a k = zo3 b k
  | 0, _ => ⟨rfl, rfl, rfl⟩
  | k + 1, h => by
    obtain ⟨h1, h2, h3⟩ := zo_congr (k := k) (fun g hg => h g (by omega))
    have e := h k (by omega)
    exact ⟨by rw [zo1, zo1, h1, e], by rw [zo2, zo2, h1, h2, e], by rw [zo3, zo3, h2, h3, e]⟩
theorem pfx.congr {k : Nat} {a b : Nat → Nat} {se on tw th ru : Nat → Int32} (hp : pfx k a se on tw th ru) (h : ∀ g, g < k → a g = b g) : pfx k b se on tw th ru := by
  refine ⟨fun g hg => by rw [hp.1 g hg, h g hg], fun j hj => ?_⟩
  obtain ⟨h1, h2, h3⟩ := zo_congr (a := a) (b := b) (k := j) (fun g hg => h g (by omega))
  rw [← h1, ← h2, ← h3, ← bRung_congr (a := a) (b := b) (k := j) (fun g hg => h g (by omega))]
  exact hp.2 j hj
theorem z_dig {a r : Nat} (ha : a < 2 ^ 31) (hr : r < 6) : (nI a >>> ((2 * nI r) &&& 31)) &&& 3 = nI (a / 4 ^ r % 4) := by
  rw [show (2 : Int32) * nI r = nI (2 * r) from pk_mul 2 r, z_shr ha (by omega), show (3 : Int32) = nI 3 from rfl, z_and, z_mod3, Nat.shiftRight_eq_div_pow, Nat.pow_mul]
section
variable {K : zK} {l : Launch} {n p q r g k s : Nat} {h h1 hb : zH} {x y z : Int32} {G : zS} {P : zP} {f : Nat → Int32} {T : zT} {tr : Int64} {ty : Int32} {X : zX} {pk se on tw th ru br rw : Nat → Int32} {b : Nat → Nat} {wo : Nat}
theorem isS.par (hS : isS hb h tr ty X pk se on tw th ru br rw) (hP : mPar hb P) : mPar h P := by
  obtain ⟨⟨f1, a1, b1⟩, ⟨f2, a2, b2⟩, ⟨f3, a3, b3⟩, ⟨f4, a4, b4⟩, ⟨f5, a5, b5⟩, ⟨f6, a6, b6⟩, ⟨f7, a7, b7⟩, ⟨f8, a8⟩, ⟨f9, a9, b9⟩, ⟨f10, a10, b10⟩⟩ := hP
  have s := hS.2.2.2.2.2.2.2.2.2
  exact ⟨⟨f1, (s _ (by omega) (by omega)).trans a1, b1⟩, ⟨f2, (s _ (by omega) (by omega)).trans a2, b2⟩, ⟨f3, (s _ (by omega) (by omega)).trans a3, b3⟩, ⟨f4, (s _ (by omega) (by omega)).trans a4, b4⟩, ⟨f5, (s _ (by omega) (by omega)).trans a5, b5⟩, ⟨f6, (s _ (by omega) (by omega)).trans a6, b6⟩, ⟨f7, (s _ (by omega) (by omega)).trans a7, b7⟩, ⟨f8, (s _ (by omega) (by omega)).trans a8⟩, ⟨f9, (s _ (by omega) (by omega)).trans a9, b9⟩, ⟨f10, (s _ (by omega) (by omega)).trans a10, b10⟩⟩
theorem r_X6_mayFollow (hS : isS hb h tr ty X pk se on tw th ru br rw) (hP0 : mPar hb P) (okp : okP P) (hk : k < 4) (hp : pfx k b se on tw th ru) (hs : s < 64) : zRet K l 0 mX6_mayFollow [.ref 34, .int (nI k), .int (nI s), .int (nI wo)] 59 h (some (.int (bI (bFol P wo b k s)))) h := by
  refine zRet.of (by decide) (Nat.le_of_ble_eq_true rfl) (fun Q hQ => ?_)
  have hP := hS.par hP0
  obtain ⟨-, -, -, -, -, -, -, -, ⟨f9, a9, b9⟩, ⟨f10, a10, b10⟩⟩ := hP
  obtain ⟨at_, st, so, va, fa, to, mo, wa, fe, ev⟩ := X
  obtain ⟨h1, c51, c52, c53, c54, c55, c56, c57, c58, hsm⟩ := hS
  have h1 : h 34 = .inr _ := h1
  have kTi := okp.2.2.2.1
  have kRe := okp.2.2.2.2.1
  have i5 : zIx (nI k) 5 k := zIx.nI (by omega) (by decide)
  obtain ⟨p1, p2, p3, -⟩ := hp.2 k (Nat.le_refl _)
  obtain ⟨d0, hd0⟩ : ∃ d0, decide (s &&& wo = 0) = d0 := ⟨_, rfl⟩
  obtain ⟨zz, hzz⟩ : ∃ zz : Nat → Bool, (fun g => decide (pRe P < k - g) || decide (s &&& b g = 0)) = zz := ⟨_, rfl⟩
  have eF : bFol P wo b k s = ((d0 && zall zz k) && decide (s &&& bFull P b k = 0)) := by rw [← hd0, ← hzz]; rfl
  rw [eF] at hQ
  have last : ∀ v : Int32, v = nI (bFull P b k) → zGo K l 0 mX6_mayFollow 123 [(0, .ref 34), (1, .int (nI k)), (2, .int (nI s)), (3, .int (nI wo)), (4, .int (bI (d0 && zall zz k))), (5, .int (nI k))] [.int v] 59 h 0 0 Q := by
    intro v hv
    subst hv
    refine kX6_mayFollow_123 ?_
    refine zb_go (zg_istore (by decide)) rfl ?_
    refine zb_go (zg_iload rfl) rfl ?_
    refine zb_br (zg_if_eq (tgt := 141) (by decide)) rfl (fun c0 => ?_) (fun c0 => ?_)
    · rw [bI_0.mp c0, Bool.false_and] at hQ
      refine kX6_mayFollow_141 ?_
      refine zb_go (zg_iconst 0 (by decide)) rfl ?_
      refine zb_out ?_
      refine kX6_mayFollow_142 ?_
      refine zb_end (zg_ireturn rfl (by rfl) ?_) rfl
      exact hQ
    · have c0 := bI_n.mp c0
      rw [c0, Bool.true_and] at hQ
      rw [c0]
      refine zb_go (zg_iload_n rfl) rfl ?_
      refine zb_go (zg_iload rfl) rfl ?_
      refine zb_go zg_iand rfl ?_
      rw [z_and]
      have ka : s &&& bFull P b k < 64 := Nat.lt_of_le_of_lt Nat.and_le_left hs
      refine zb_br (zg_if_ne (tgt := 141) (by decide)) rfl (fun c1 => ?_) (fun c1 => ?_)
      · rw [decide_eq_false (fun w => c1 (by rw [w]; rfl))] at hQ
        refine kX6_mayFollow_141 ?_
        refine zb_go (zg_iconst 0 (by decide)) rfl ?_
        refine zb_out ?_
        refine kX6_mayFollow_142 ?_
        refine zb_end (zg_ireturn rfl (by rfl) ?_) rfl
        exact hQ
      · rw [decide_eq_true ((nI_eq (b := 0) (by omega) (by decide)).mp c1)] at hQ
        refine zb_go (zg_iconst 1 (by decide)) rfl ?_
        refine zb_end (zg_goto (tgt := 142) (by decide) ?_) rfl
        refine kX6_mayFollow_142 ?_
        refine zb_end (zg_ireturn rfl (by rfl) ?_) rfl
        exact hQ
  have fullS : zGo K l 0 mX6_mayFollow 65 [(0, .ref 34), (1, .int (nI k)), (2, .int (nI s)), (3, .int (nI wo)), (4, .int (bI (d0 && zall zz k))), (5, .int (nI k))] [] 59 h 0 0 Q := by
    refine kX6_mayFollow_65 ?_
    refine zb_go (zg_aload_n rfl) rfl ?_
    refine zb_go (zg_getfield fX6_38 (by first | decide | assumption | omega) (by repeat (first | assumption | exact z_up_self _ _ _ | refine (z_up_ne (by first | decide | omega)).trans ?_)) (by rfl)) rfl ?_
    refine zb_go (zg_iconst 0 (by decide)) rfl ?_
    refine zb_go (zi_iaload (by first | decide | assumption | omega) (by repeat (first | assumption | exact z_up_self _ _ _ | refine (z_up_ne (by first | decide | omega)).trans ?_)) (by first | assumption | exact zIx.nI (by omega) (by decide) | exact ⟨by decide, by decide⟩ | exact zIx.nI (k := 0) (by decide) (by decide) | exact zIx.nI (k := 1) (by decide) (by decide) | exact zIx.nI (k := 2) (by decide) (by decide) | exact zIx.nI (k := 3) (by decide) (by decide))) rfl ?_
    refine zb_go (zg_iconst 1 (by decide)) rfl ?_
    rw [b9]
    refine zb_br (zg_icmp_ne (tgt := 84) (by decide)) rfl (fun c0 => ?_) (fun c0 => ?_)
    · have c0 : pTi P ≠ 1 := fun w => c0 (by rw [w]; rfl)
      refine kX6_mayFollow_84 ?_
      refine zb_go (zg_aload_n rfl) rfl ?_
      refine zb_go (zg_getfield fX6_38 (by first | decide | assumption | omega) (by repeat (first | assumption | exact z_up_self _ _ _ | refine (z_up_ne (by first | decide | omega)).trans ?_)) (by rfl)) rfl ?_
      refine zb_go (zg_iconst 0 (by decide)) rfl ?_
      refine zb_go (zi_iaload (by first | decide | assumption | omega) (by repeat (first | assumption | exact z_up_self _ _ _ | refine (z_up_ne (by first | decide | omega)).trans ?_)) (by first | assumption | exact zIx.nI (by omega) (by decide) | exact ⟨by decide, by decide⟩ | exact zIx.nI (k := 0) (by decide) (by decide) | exact zIx.nI (k := 1) (by decide) (by decide) | exact zIx.nI (k := 2) (by decide) (by decide) | exact zIx.nI (k := 3) (by decide) (by decide))) rfl ?_
      refine zb_go (zg_iconst 2 (by decide)) rfl ?_
      rw [b9]
      refine zb_br (zg_icmp_ne (tgt := 103) (by decide)) rfl (fun c1 => ?_) (fun c1 => ?_)
      · have c1 : pTi P ≠ 2 := fun w => c1 (by rw [w]; rfl)
        refine kX6_mayFollow_103 ?_
        refine zb_go (zg_aload_n rfl) rfl ?_
        refine zb_go (zg_getfield fX6_38 (by first | decide | assumption | omega) (by repeat (first | assumption | exact z_up_self _ _ _ | refine (z_up_ne (by first | decide | omega)).trans ?_)) (by rfl)) rfl ?_
        refine zb_go (zg_iconst 0 (by decide)) rfl ?_
        refine zb_go (zi_iaload (by first | decide | assumption | omega) (by repeat (first | assumption | exact z_up_self _ _ _ | refine (z_up_ne (by first | decide | omega)).trans ?_)) (by first | assumption | exact zIx.nI (by omega) (by decide) | exact ⟨by decide, by decide⟩ | exact zIx.nI (k := 0) (by decide) (by decide) | exact zIx.nI (k := 1) (by decide) (by decide) | exact zIx.nI (k := 2) (by decide) (by decide) | exact zIx.nI (k := 3) (by decide) (by decide))) rfl ?_
        refine zb_go (zg_iconst 3 (by decide)) rfl ?_
        rw [b9]
        refine zb_br (zg_icmp_ne (tgt := 122) (by decide)) rfl (fun c2 => ?_) (fun c2 => ?_)
        · have c2 : pTi P ≠ 3 := fun w => c2 (by rw [w]; rfl)
          refine kX6_mayFollow_122 ?_
          refine zb_go (zg_iconst 0 (by decide)) rfl ?_
          refine zb_out ?_
          exact last _ (by unfold bFull; rw [if_neg c0, if_neg c1, if_neg c2]; rfl)
        · have c2 : pTi P = 3 := (nI_eq (b := 3) (by omega) (by decide)).mp c2
          refine zb_go (zg_aload_n rfl) rfl ?_
          refine zb_go (zg_getfield fX6_72 (by first | decide | assumption | omega) (by repeat (first | assumption | exact z_up_self _ _ _ | refine (z_up_ne (by first | decide | omega)).trans ?_)) (by rfl)) rfl ?_
          refine zb_go (zg_iload_n rfl) rfl ?_
          refine zb_go (zi_iaload (by first | decide | assumption | omega) (by repeat (first | assumption | exact z_up_self _ _ _ | refine (z_up_ne (by first | decide | omega)).trans ?_)) i5) rfl ?_
          refine zb_end (zg_goto (tgt := 123) (by decide) ?_) rfl
          exact last _ (by unfold bFull; rw [if_neg c0, if_neg c1, if_pos c2, p3])
      · have c1 : pTi P = 2 := (nI_eq (b := 2) (by omega) (by decide)).mp c1
        refine zb_go (zg_aload_n rfl) rfl ?_
        refine zb_go (zg_getfield fX6_69 (by first | decide | assumption | omega) (by repeat (first | assumption | exact z_up_self _ _ _ | refine (z_up_ne (by first | decide | omega)).trans ?_)) (by rfl)) rfl ?_
        refine zb_go (zg_iload_n rfl) rfl ?_
        refine zb_go (zi_iaload (by first | decide | assumption | omega) (by repeat (first | assumption | exact z_up_self _ _ _ | refine (z_up_ne (by first | decide | omega)).trans ?_)) i5) rfl ?_
        refine zb_end (zg_goto (tgt := 123) (by decide) ?_) rfl
        exact last _ (by unfold bFull; rw [if_neg c0, if_pos c1, p2])
    · have c0 : pTi P = 1 := (nI_eq (b := 1) (by omega) (by decide)).mp c0
      refine zb_go (zg_aload_n rfl) rfl ?_
      refine zb_go (zg_getfield fX6_66 (by first | decide | assumption | omega) (by repeat (first | assumption | exact z_up_self _ _ _ | refine (z_up_ne (by first | decide | omega)).trans ?_)) (by rfl)) rfl ?_
      refine zb_go (zg_iload_n rfl) rfl ?_
      refine zb_go (zi_iaload (by first | decide | assumption | omega) (by repeat (first | assumption | exact z_up_self _ _ _ | refine (z_up_ne (by first | decide | omega)).trans ?_)) i5) rfl ?_
      refine zb_end (zg_goto (tgt := 123) (by decide) ?_) rfl
      exact last _ (by unfold bFull; rw [if_pos c0, p1])
  have lp : ∀ g, g ≤ k → zGo K l 0 mX6_mayFollow 16 [(0, .ref 34), (1, .int (nI k)), (2, .int (nI s)), (3, .int (nI wo)), (4, .int (bI (d0 && zall zz g))), (5, .int (nI g))] [] 59 h 0 0 Q := by
    refine z_down k (fun g hg ih => ?_)
    refine kX6_mayFollow_16 ?_
    refine zb_go (zg_iload rfl) rfl ?_
    refine zb_go (zg_iload_n rfl) rfl ?_
    refine zb_br (zg_icmp_ge (tgt := 65) (by decide)) rfl (fun c0 => ?_) (fun c0 => ?_)
    · obtain rfl := z_is_le (by omega) hg c0
      exact fullS
    · have hg2 := z_not_le (by omega) hg c0
      have ih := ih hg2
      rw [zall_succ, ← Bool.and_assoc] at ih
      have no : (d0 && zall zz g && zz g) = false → zGo K l 0 mX6_mayFollow 56 [(0, .ref 34), (1, .int (nI k)), (2, .int (nI s)), (3, .int (nI wo)), (4, .int (bI (d0 && zall zz g))), (5, .int (nI g))] [] 59 h 0 0 Q := by
        intro hz
        rw [hz] at ih
        refine kX6_mayFollow_56 ?_
        refine zb_go (zg_iconst 0 (by decide)) rfl ?_
        refine zb_out ?_
        refine kX6_mayFollow_57 ?_
        refine zb_go (zg_istore (by decide)) rfl ?_
        refine zb_go (zg_iinc 1 (by decide) rfl (by decide)) rfl ?_
        refine zb_end (zg_goto (tgt := 16) (by decide) ?_) rfl
        rw [nI_1]
        exact ih
      have yes : (d0 && zall zz g && zz g) = true → zGo K l 0 mX6_mayFollow 52 [(0, .ref 34), (1, .int (nI k)), (2, .int (nI s)), (3, .int (nI wo)), (4, .int (bI (d0 && zall zz g))), (5, .int (nI g))] [] 59 h 0 0 Q := by
        intro hz
        rw [hz] at ih
        refine kX6_mayFollow_52 ?_
        refine zb_go (zg_iconst 1 (by decide)) rfl ?_
        refine zb_end (zg_goto (tgt := 57) (by decide) ?_) rfl
        refine kX6_mayFollow_57 ?_
        refine zb_go (zg_istore (by decide)) rfl ?_
        refine zb_go (zg_iinc 1 (by decide) rfl (by decide)) rfl ?_
        refine zb_end (zg_goto (tgt := 16) (by decide) ?_) rfl
        rw [nI_1]
        exact ih
      refine zb_go (zg_iload rfl) rfl ?_
      refine zb_br (zg_if_eq (tgt := 56) (by decide)) rfl (fun c1 => ?_) (fun c1 => ?_)
      · exact no (by rw [bI_0.mp c1, Bool.false_and])
      · have c1 := bI_n.mp c1
        rw [c1, Bool.true_and] at no yes
        rw [c1]
        have ezz : zz g = (decide (pRe P < k - g) || decide (s &&& b g = 0)) := by rw [← hzz]
        rw [ezz] at no yes
        refine zb_go (zg_iload_n rfl) rfl ?_
        refine zb_go (zg_iload rfl) rfl ?_
        refine zb_go zg_isub rfl ?_
        refine zb_go (zg_aload_n rfl) rfl ?_
        refine zb_go (zg_getfield fX6_41 (by first | decide | assumption | omega) (by repeat (first | assumption | exact z_up_self _ _ _ | refine (z_up_ne (by first | decide | omega)).trans ?_)) (by rfl)) rfl ?_
        refine zb_go (zg_iconst 0 (by decide)) rfl ?_
        refine zb_go (zi_iaload (by first | decide | assumption | omega) (by repeat (first | assumption | exact z_up_self _ _ _ | refine (z_up_ne (by first | decide | omega)).trans ?_)) (by first | assumption | exact zIx.nI (by omega) (by decide) | exact ⟨by decide, by decide⟩ | exact zIx.nI (k := 0) (by decide) (by decide) | exact zIx.nI (k := 1) (by decide) (by decide) | exact zIx.nI (k := 2) (by decide) (by decide) | exact zIx.nI (k := 3) (by decide) (by decide))) rfl ?_
        rw [b10, pk_sub (by omega)]
        refine zb_br (zg_icmp_gt (tgt := 52) (by decide)) rfl (fun c2 => ?_) (fun c2 => ?_)
        · have c2 := (nI_ltI (by omega) (by omega)).mp c2
          exact yes (by rw [decide_eq_true c2, Bool.true_or])
        · have c2 : ¬ pRe P < k - g := fun w => c2 (nI_lt w (by omega))
          rw [decide_eq_false c2, Bool.false_or] at no yes
          have i4 : zIx (nI g) 4 g := zIx.nI (by omega) (by decide)
          refine zb_go (zg_iload_n rfl) rfl ?_
          refine zb_go (zg_aload_n rfl) rfl ?_
          refine zb_go (zg_getfield fX6_63 (by first | decide | assumption | omega) (by repeat (first | assumption | exact z_up_self _ _ _ | refine (z_up_ne (by first | decide | omega)).trans ?_)) (by rfl)) rfl ?_
          refine zb_go (zg_iload rfl) rfl ?_
          refine zb_go (zi_iaload (by first | decide | assumption | omega) (by repeat (first | assumption | exact z_up_self _ _ _ | refine (z_up_ne (by first | decide | omega)).trans ?_)) i4) rfl ?_
          rw [hp.1 g hg2]
          refine zb_go zg_iand rfl ?_
          rw [z_and]
          have ka : s &&& b g < 64 := Nat.lt_of_le_of_lt Nat.and_le_left hs
          refine zb_br (zg_if_ne (tgt := 56) (by decide)) rfl (fun c3 => ?_) (fun c3 => ?_)
          · exact no (decide_eq_false (fun w => c3 (by rw [w]; rfl)))
          · refine zb_out ?_
            exact yes (decide_eq_true ((nI_eq (b := 0) (by omega) (by decide)).mp c3))
  have ka : s &&& wo < 64 := Nat.lt_of_le_of_lt Nat.and_le_left hs
  have lp0 := lp 0 (Nat.zero_le _)
  rw [show zall zz 0 = true from rfl, Bool.and_true, ← hd0] at lp0
  refine kX6_mayFollow_0 ?_
  refine zb_go (zg_iload_n rfl) rfl ?_
  refine zb_go (zg_iload_n rfl) rfl ?_
  refine zb_go zg_iand rfl ?_
  rw [z_and]
  refine zb_br (zg_if_ne (tgt := 10) (by decide)) rfl (fun c0 => ?_) (fun c0 => ?_)
  · rw [decide_eq_false (fun w => c0 (by rw [w]; rfl))] at lp0
    refine kX6_mayFollow_10 ?_
    refine zb_go (zg_iconst 0 (by decide)) rfl ?_
    refine zb_out ?_
    refine kX6_mayFollow_11 ?_
    refine zb_go (zg_istore (by decide)) rfl ?_
    refine zb_go (zg_iconst 0 (by decide)) rfl ?_
    refine zb_go (zg_istore (by decide)) rfl ?_
    refine zb_out ?_
    exact lp0
  · rw [decide_eq_true ((nI_eq (b := 0) (by omega) (by decide)).mp c0)] at lp0
    refine zb_go (zg_iconst 1 (by decide)) rfl ?_
    refine zb_end (zg_goto (tgt := 11) (by decide) ?_) rfl
    refine kX6_mayFollow_11 ?_
    refine zb_go (zg_istore (by decide)) rfl ?_
    refine zb_go (zg_iconst 0 (by decide)) rfl ?_
    refine zb_go (zg_istore (by decide)) rfl ?_
    refine zb_out ?_
    exact lp0
theorem r_X6_follow (hS : isS hb h tr ty X pk se on tw th ru br rw) (hk : k < 4) (hp : pfx k b se on tw th ru) (hs : s < 64) : zRex K l 1 mX6_follow [.ref 34, .int (nI k), .int (nI s)] 59 h (fun v h' => v = none ∧ ∃ se on tw th ru, isS hb h' tr ty X pk se on tw th ru br rw ∧ pfx (k + 1) (zupd b k s) se on tw th ru) := by
  refine zRex.of (by decide) (Nat.le_of_ble_eq_true rfl) (fun Q hQ => ?_)
  obtain ⟨at_, st, so, va, fa, to, mo, wa, fe, ev⟩ := X
  obtain ⟨h1, c51, c52, c53, c54, c55, c56, c57, c58, hsm⟩ := hS
  have h1' := h1
  have h1 : h 34 = .inr _ := h1
  have i4 : zIx (nI k) 4 k := zIx.nI (by omega) (by decide)
  have i5 : zIx (nI k) 5 k := zIx.nI (by omega) (by decide)
  have j5 : zIx (nI k + 1) 5 (k + 1) := by rw [nI_1]; exact zIx.nI (by omega) (by decide)
  refine kX6_follow_0 ?_
  refine zb_go (zg_aload_n rfl) rfl ?_
  refine zb_go (zg_getfield fX6_63 (by first | decide | assumption | omega) (by repeat (first | assumption | exact z_up_self _ _ _ | refine (z_up_ne (by first | decide | omega)).trans ?_)) (by rfl)) rfl ?_
  refine zb_go (zg_iload_n rfl) rfl ?_
  refine zb_go (zg_iload_n rfl) rfl ?_
  refine zb_go (zi_iastore (by first | decide | assumption | omega) (by repeat (first | assumption | exact z_up_self _ _ _ | refine (z_up_ne (by first | decide | omega)).trans ?_)) i4) rfl ?_
  refine zb_go (zg_aload_n rfl) rfl ?_
  refine zb_go (zg_getfield fX6_72 (by first | decide | assumption | omega) (by repeat (first | assumption | exact z_up_self _ _ _ | refine (z_up_ne (by first | decide | omega)).trans ?_)) (by rfl)) rfl ?_
  refine zb_go (zg_iload_n rfl) rfl ?_
  refine zb_go (zg_iconst 1 (by decide)) rfl ?_
  refine zb_go zg_iadd rfl ?_
  refine zb_go (zg_aload_n rfl) rfl ?_
  refine zb_go (zg_getfield fX6_72 (by first | decide | assumption | omega) (by repeat (first | assumption | exact z_up_self _ _ _ | refine (z_up_ne (by first | decide | omega)).trans ?_)) (by rfl)) rfl ?_
  refine zb_go (zg_iload_n rfl) rfl ?_
  refine zb_go (zi_iaload (by first | decide | assumption | omega) (by repeat (first | assumption | exact z_up_self _ _ _ | refine (z_up_ne (by first | decide | omega)).trans ?_)) i5) rfl ?_
  refine zb_go (zg_aload_n rfl) rfl ?_
  refine zb_go (zg_getfield fX6_69 (by first | decide | assumption | omega) (by repeat (first | assumption | exact z_up_self _ _ _ | refine (z_up_ne (by first | decide | omega)).trans ?_)) (by rfl)) rfl ?_
  refine zb_go (zg_iload_n rfl) rfl ?_
  refine zb_go (zi_iaload (by first | decide | assumption | omega) (by repeat (first | assumption | exact z_up_self _ _ _ | refine (z_up_ne (by first | decide | omega)).trans ?_)) i5) rfl ?_
  refine zb_go (zg_iload_n rfl) rfl ?_
  refine zb_go zg_iand rfl ?_
  refine zb_go zg_ior rfl ?_
  refine zb_go (zi_iastore (by first | decide | assumption | omega) (by repeat (first | assumption | exact z_up_self _ _ _ | refine (z_up_ne (by first | decide | omega)).trans ?_)) j5) rfl ?_
  refine zb_go (zg_aload_n rfl) rfl ?_
  refine zb_go (zg_getfield fX6_69 (by first | decide | assumption | omega) (by repeat (first | assumption | exact z_up_self _ _ _ | refine (z_up_ne (by first | decide | omega)).trans ?_)) (by rfl)) rfl ?_
  refine zb_go (zg_iload_n rfl) rfl ?_
  refine zb_go (zg_iconst 1 (by decide)) rfl ?_
  refine zb_go zg_iadd rfl ?_
  refine zb_go (zg_aload_n rfl) rfl ?_
  refine zb_go (zg_getfield fX6_69 (by first | decide | assumption | omega) (by repeat (first | assumption | exact z_up_self _ _ _ | refine (z_up_ne (by first | decide | omega)).trans ?_)) (by rfl)) rfl ?_
  refine zb_go (zg_iload_n rfl) rfl ?_
  refine zb_go (zi_iaload (by first | decide | assumption | omega) (by repeat (first | assumption | exact z_up_self _ _ _ | refine (z_up_ne (by first | decide | omega)).trans ?_)) i5) rfl ?_
  refine zb_go (zg_aload_n rfl) rfl ?_
  refine zb_go (zg_getfield fX6_66 (by first | decide | assumption | omega) (by repeat (first | assumption | exact z_up_self _ _ _ | refine (z_up_ne (by first | decide | omega)).trans ?_)) (by rfl)) rfl ?_
  refine zb_go (zg_iload_n rfl) rfl ?_
  refine zb_go (zi_iaload (by first | decide | assumption | omega) (by repeat (first | assumption | exact z_up_self _ _ _ | refine (z_up_ne (by first | decide | omega)).trans ?_)) i5) rfl ?_
  refine zb_go (zg_iload_n rfl) rfl ?_
  refine zb_go zg_iand rfl ?_
  refine zb_go zg_ior rfl ?_
  refine zb_go (zi_iastore (by first | decide | assumption | omega) (by repeat (first | assumption | exact z_up_self _ _ _ | refine (z_up_ne (by first | decide | omega)).trans ?_)) j5) rfl ?_
  refine zb_go (zg_aload_n rfl) rfl ?_
  refine zb_go (zg_getfield fX6_66 (by first | decide | assumption | omega) (by repeat (first | assumption | exact z_up_self _ _ _ | refine (z_up_ne (by first | decide | omega)).trans ?_)) (by rfl)) rfl ?_
  refine zb_go (zg_iload_n rfl) rfl ?_
  refine zb_go (zg_iconst 1 (by decide)) rfl ?_
  refine zb_go zg_iadd rfl ?_
  refine zb_go (zg_aload_n rfl) rfl ?_
  refine zb_go (zg_getfield fX6_66 (by first | decide | assumption | omega) (by repeat (first | assumption | exact z_up_self _ _ _ | refine (z_up_ne (by first | decide | omega)).trans ?_)) (by rfl)) rfl ?_
  refine zb_go (zg_iload_n rfl) rfl ?_
  refine zb_go (zi_iaload (by first | decide | assumption | omega) (by repeat (first | assumption | exact z_up_self _ _ _ | refine (z_up_ne (by first | decide | omega)).trans ?_)) i5) rfl ?_
  refine zb_go (zg_iload_n rfl) rfl ?_
  refine zb_go zg_ior rfl ?_
  refine zb_go (zi_iastore (by first | decide | assumption | omega) (by repeat (first | assumption | exact z_up_self _ _ _ | refine (z_up_ne (by first | decide | omega)).trans ?_)) j5) rfl ?_
  refine zb_go (zg_aload_n rfl) rfl ?_
  refine zb_go (zg_getfield fX6_75 (by first | decide | assumption | omega) (by repeat (first | assumption | exact z_up_self _ _ _ | refine (z_up_ne (by first | decide | omega)).trans ?_)) (by rfl)) rfl ?_
  refine zb_go (zg_iload_n rfl) rfl ?_
  refine zb_go (zg_iconst 1 (by decide)) rfl ?_
  refine zb_go zg_iadd rfl ?_
  refine zb_go (zg_aload_n rfl) rfl ?_
  refine zb_go (zg_getfield fX6_75 (by first | decide | assumption | omega) (by repeat (first | assumption | exact z_up_self _ _ _ | refine (z_up_ne (by first | decide | omega)).trans ?_)) (by rfl)) rfl ?_
  refine zb_go (zg_iload_n rfl) rfl ?_
  refine zb_go (zi_iaload (by first | decide | assumption | omega) (by repeat (first | assumption | exact z_up_self _ _ _ | refine (z_up_ne (by first | decide | omega)).trans ?_)) i5) rfl ?_
  refine zb_go (zg_iload_n rfl) rfl ?_
  refine zb_calls (r_X6_bitsIn hs) lX6_179 rfl (by first | decide | omega) rfl (Nat.le_of_ble_eq_true rfl) rfl ?_
  refine zb_go zg_iadd rfl ?_
  refine zb_go (zi_iastore (by first | decide | assumption | omega) (by repeat (first | assumption | exact z_up_self _ _ _ | refine (z_up_ne (by first | decide | omega)).trans ?_)) j5) rfl ?_
  refine zb_end (zg_return rfl ?_) rfl
  obtain ⟨p1, p2, p3, p4⟩ := hp.2 k (Nat.le_refl _)
  refine hQ _ _ ⟨rfl, upd se k (nI s), upd on (k + 1) (on k ||| nI s), upd tw (k + 1) (tw k ||| on k &&& nI s), upd th (k + 1) (th k ||| tw k &&& nI s), upd ru (k + 1) (ru k + nI (zpop s)), ⟨?_, ?_, ?_, ?_, ?_, ?_, z_up_self _ _ _, ?_, ?_, fun j hj1 hj2 => ?_⟩, ?_⟩
  · exact (z_up_ne (by decide)).trans ((z_up_ne (by decide)).trans ((z_up_ne (by decide)).trans ((z_up_ne (by decide)).trans ((z_up_ne (by decide)).trans h1'))))
  · exact (z_up_ne (by decide)).trans ((z_up_ne (by decide)).trans ((z_up_ne (by decide)).trans ((z_up_ne (by decide)).trans ((z_up_ne (by decide)).trans c51))))
  · exact (z_up_ne (by decide)).trans ((z_up_ne (by decide)).trans ((z_up_ne (by decide)).trans ((z_up_ne (by decide)).trans (z_up_self _ _ _))))
  · exact (z_up_ne (by decide)).trans (z_up_self _ _ _)
  · exact (z_up_ne (by decide)).trans ((z_up_ne (by decide)).trans (z_up_self _ _ _))
  · exact (z_up_ne (by decide)).trans ((z_up_ne (by decide)).trans ((z_up_ne (by decide)).trans (z_up_self _ _ _)))
  · exact (z_up_ne (by decide)).trans ((z_up_ne (by decide)).trans ((z_up_ne (by decide)).trans ((z_up_ne (by decide)).trans ((z_up_ne (by decide)).trans c57))))
  · exact (z_up_ne (by decide)).trans ((z_up_ne (by decide)).trans ((z_up_ne (by decide)).trans ((z_up_ne (by decide)).trans ((z_up_ne (by decide)).trans c58))))
  · exact (z_up_ne (by omega)).trans ((z_up_ne (by omega)).trans ((z_up_ne (by omega)).trans ((z_up_ne (by omega)).trans ((z_up_ne (by omega)).trans (hsm j hj1 hj2)))))
  · have hne : ∀ g, g < k → b g = zupd b k s g := fun g hg => by unfold zupd; rw [if_neg (by omega)]
    have hat : zupd b k s k = s := if_pos rfl
    refine ⟨fun g hg => ?_, fun j hj => ?_⟩
    · by_cases w : g = k
      · rw [w, pk_us, hat]
      · rw [pk_un w, hp.1 g (by omega), hne g (by omega)]
    · by_cases w : j = k + 1
      · subst w
        obtain ⟨e1, e2, e3⟩ := zo_congr hne
        rw [pk_us, pk_us, pk_us, pk_us, p1, p2, p3, p4, z_or, z_and, z_or, z_and, z_or, nI_add]
        simp only [zo1, zo2, zo3, bRung, zsum, hat, ← e1, ← e2, ← e3, true_and]
        rw [zsum_congr (p := fun g => zpop (b g)) (q := fun g => zpop (zupd b k s g)) (fun g hg => by show zpop (b g) = zpop (zupd b k s g); rw [hne g hg])]
      · rw [pk_un w, pk_un w, pk_un w, pk_un w]
        obtain ⟨e1, e2, e3⟩ := zo_congr (a := b) (b := zupd b k s) (k := j) (fun g hg => hne g (by omega))
        rw [← e1, ← e2, ← e3, ← bRung_congr (a := b) (b := zupd b k s) (k := j) (fun g hg => hne g (by omega))]
        exact hp.2 j (by omega)
theorem r_X6_wantedFrom (h34 : ∃ tr ty X, h 34 = mObj tr ty X) (hP : mPar h P) (okp : okP P) (hk : k ≤ 4) : zRet K l 0 mX6_wantedFrom [.ref 34, .int (nI k)] 59 h (some (.int (nI (bWf P k)))) h := by
  refine zRet.of (by decide) (Nat.le_of_ble_eq_true rfl) (fun Q hQ => ?_)
  obtain ⟨tr, ty, ⟨at_, st, so, va, fa, to, mo, wa, fe, ev⟩, h1⟩ := h34
  have h1 : h 34 = .inr _ := h1
  obtain ⟨⟨f1, a1, b1⟩, ⟨f2, a2, b2⟩, -⟩ := hP
  have kH := okp.1
  have fin : ∀ m, k + m ≤ 4 → pH P ≤ k + m → zsum (fun i => wN P (k + i)) m = bWf P k := by
    intro m hm hH
    unfold bWf
    have : ∀ d, zsum (fun i => wN P (k + i)) (m + d) = zsum (fun i => wN P (k + i)) m := by
      intro d
      induction d with
      | zero => rfl
      | succ d ih =>
        show zsum (fun i => wN P (k + i)) (m + d) + wN P (k + (m + d)) = _
        rw [ih]
        unfold wN
        rw [if_neg (by omega), Nat.add_zero]
    have e := this (4 - k - m)
    rw [show m + (4 - k - m) = 4 - k by omega] at e
    exact e.symm
  have lp : ∀ m, m ≤ 4 - k → zGo K l 0 mX6_wantedFrom 4 [(0, .ref 34), (1, .int (nI k)), (2, .int (nI (zsum (fun i => wN P (k + i)) m))), (3, .int (nI (k + m)))] [] 59 h 0 0 Q := by
    refine z_down (4 - k) (fun m hm ih => ?_)
    refine kX6_wantedFrom_4 ?_
    refine zb_go (zg_iload_n rfl) rfl ?_
    refine zb_go (zg_aload_n rfl) rfl ?_
    refine zb_go (zg_getfield fX6_13 (by first | decide | assumption | omega) (by repeat (first | assumption | exact z_up_self _ _ _ | refine (z_up_ne (by first | decide | omega)).trans ?_)) (by rfl)) rfl ?_
    refine zb_go (zg_iconst 0 (by decide)) rfl ?_
    refine zb_go (zi_iaload (by first | decide | assumption | omega) (by repeat (first | assumption | exact z_up_self _ _ _ | refine (z_up_ne (by first | decide | omega)).trans ?_)) (by first | assumption | exact zIx.nI (by omega) (by decide) | exact ⟨by decide, by decide⟩ | exact zIx.nI (k := 0) (by decide) (by decide) | exact zIx.nI (k := 1) (by decide) (by decide) | exact zIx.nI (k := 2) (by decide) (by decide) | exact zIx.nI (k := 3) (by decide) (by decide))) rfl ?_
    rw [b1]
    refine zb_br (zg_icmp_ge (tgt := 29) (by decide)) rfl (fun c0 => ?_) (fun c0 => ?_)
    · have c0 := (nI_leI (by omega) (by omega)).mp c0
      rw [fin m (by omega) c0]
      refine kX6_wantedFrom_29 ?_
      refine zb_go (zg_iload_n rfl) rfl ?_
      refine zb_end (zg_ireturn rfl (by rfl) ?_) rfl
      exact hQ
    · have c0 : k + m < pH P := by
        rcases Nat.lt_or_ge (k + m) (pH P) with w | w
        · exact w
        · exact absurd (nI_le w (by omega)) c0
      have ih := ih (by omega)
      have i8 : zIx (nI (k + m)) 8 (k + m) := zIx.nI (by omega) (by decide)
      have e : zsum (fun i => wN P (k + i)) (m + 1) = zsum (fun i => wN P (k + i)) m + pW P (k + m) := by
        show _ + wN P (k + m) = _
        unfold wN
        rw [if_pos c0]
      rw [e] at ih
      refine zb_go (zg_iload_n rfl) rfl ?_
      refine zb_go (zg_aload_n rfl) rfl ?_
      refine zb_go (zg_getfield fX6_17 (by first | decide | assumption | omega) (by repeat (first | assumption | exact z_up_self _ _ _ | refine (z_up_ne (by first | decide | omega)).trans ?_)) (by rfl)) rfl ?_
      refine zb_go (zg_iload_n rfl) rfl ?_
      refine zb_go (zi_iaload (by first | decide | assumption | omega) (by repeat (first | assumption | exact z_up_self _ _ _ | refine (z_up_ne (by first | decide | omega)).trans ?_)) i8) rfl ?_
      refine zb_go zg_iadd rfl ?_
      refine zb_go (zg_istore_n (by decide)) rfl ?_
      refine zb_go (zg_iinc 1 (by decide) rfl (by decide)) rfl ?_
      refine zb_end (zg_goto (tgt := 4) (by decide) ?_) rfl
      rw [b2 _ c0, nI_add, nI_1, Nat.add_assoc]
      exact ih
  refine kX6_wantedFrom_0 ?_
  refine zb_go (zg_iconst 0 (by decide)) rfl ?_
  refine zb_go (zg_istore_n (by decide)) rfl ?_
  refine zb_go (zg_iload_n rfl) rfl ?_
  refine zb_go (zg_istore_n (by decide)) rfl ?_
  refine zb_out ?_
  exact lp 0 (Nat.zero_le _)
theorem r_X6_isFirst {A B : Nat → Nat} (h34 : ∃ tr ty X, h 34 = mObj tr ty X) (h57 : h 57 = .inl (0, 4, .inl br)) (h58 : h 58 = .inl (0, 4, .inl rw)) (hA : ∀ g, g < 4 → rw g = nI (A g) ∧ A g < 4096) (hB : ∀ g, g < 4 → br g = nI (B g) ∧ B g < 4096) : zRet K l 0 mX6_isFirst [.ref 34, .ref 58] 59 h (some (.int (bI (decide (bCod A < bCod B))))) h := by
  refine zRet.of (by decide) (Nat.le_of_ble_eq_true rfl) (fun Q hQ => ?_)
  obtain ⟨tr, ty, ⟨at_, st, so, va, fa, to, mo, wa, fe, ev⟩, h1⟩ := h34
  have h1 : h 34 = .inr _ := h1
  have lpR : ∀ r, r ≤ 6 → (∀ q k, q < 6 → k < 4 → q < r → A k / 4 ^ q % 4 = B k / 4 ^ q % 4) → ∀ ls, zGo K l 0 mX6_isFirst 2 ((0, .ref 34) :: (1, .ref 58) :: (2, .int (nI r)) :: ls) [] 59 h 0 0 Q := by
    refine z_down 6 (fun r hr ih heq ls => ?_)
    refine zg_sub [(0, .ref 34), (1, .ref 58), (2, .int (nI r))] (fun q hq => List.mem_append_left ls hq) ?_
    refine kX6_isFirst_2 ?_
    refine zb_go (zg_iload_n rfl) rfl ?_
    refine zb_go (zg_bipush 6 (by decide)) rfl ?_
    refine zb_br (zg_icmp_ge (tgt := 72) (by decide)) rfl (fun c0 => ?_) (fun c0 => ?_)
    · obtain rfl := z_is_le (by omega) hr c0
      rw [decide_eq_false (by rw [bCod_same (fun q k hq hk => heq q k hq hk hq)]; exact Nat.lt_irrefl _)] at hQ
      refine kX6_isFirst_72 ?_
      refine zb_go (zg_iconst 0 (by decide)) rfl ?_
      refine zb_end (zg_ireturn rfl (by rfl) ?_) rfl
      exact hQ
    · have hr2 := z_not_le (by omega) hr c0
      have ih := ih hr2
      have lpH : ∀ g, g ≤ 4 → (∀ k, k < g → A k / 4 ^ r % 4 = B k / 4 ^ r % 4) → ∀ ls, zGo K l 0 mX6_isFirst 10 ((0, .ref 34) :: (1, .ref 58) :: (2, .int (nI r)) :: (3, .int (nI g)) :: ls) [] 59 h 0 0 Q := by
        refine z_down 4 (fun g hg ihg heg ls => ?_)
        refine zg_sub [(0, .ref 34), (1, .ref 58), (2, .int (nI r)), (3, .int (nI g))] (fun q hq => List.mem_append_left ls hq) ?_
        refine kX6_isFirst_10 ?_
        refine zb_go (zg_iload_n rfl) rfl ?_
        refine zb_go (zg_iconst 4 (by decide)) rfl ?_
        refine zb_br (zg_icmp_ge (tgt := 66) (by decide)) rfl (fun c1 => ?_) (fun c1 => ?_)
        · obtain rfl := z_is_le (by omega) hg c1
          refine kX6_isFirst_66 ?_
          refine zb_go (zg_iinc 1 (by decide) rfl (by decide)) rfl ?_
          refine zb_end (zg_goto (tgt := 2) (by decide) ?_) rfl
          rw [nI_1]
          refine ih (fun q k hq hk hqr => ?_) [(3, _)]
          by_cases w : q = r
          · rw [w]; exact heg k hk
          · exact heq q k hq hk (by omega)
        · have hg2 := z_not_le (by omega) hg c1
          have i4 : zIx (nI g) 4 g := zIx.nI (by omega) (by decide)
          obtain ⟨eA, lA⟩ := hA g hg2
          obtain ⟨eB, lB⟩ := hB g hg2
          have hall : ∀ q k, q < 6 → k < 4 → (q < r ∨ (q = r ∧ k < g)) → A k / 4 ^ q % 4 = B k / 4 ^ q % 4 := fun q k hq hk hw => by
            rcases hw with hw | ⟨rfl, hw⟩
            · exact heq q k hq hk hw
            · exact heg k hw
          refine zb_go (zg_aload_n rfl) rfl ?_
          refine zb_go (zg_iload_n rfl) rfl ?_
          refine zb_go (zi_iaload (by first | decide | assumption | omega) (by repeat (first | assumption | exact z_up_self _ _ _ | refine (z_up_ne (by first | decide | omega)).trans ?_)) i4) rfl ?_
          refine zb_go (zg_iconst 2 (by decide)) rfl ?_
          refine zb_go (zg_iload_n rfl) rfl ?_
          refine zb_go zg_imul rfl ?_
          refine zb_go zg_ishr rfl ?_
          refine zb_go (zg_iconst 3 (by decide)) rfl ?_
          rw [eA]
          refine zb_go zg_iand rfl ?_
          rw [z_dig (by omega) hr2]
          refine zb_go (zg_istore (by decide)) rfl ?_
          refine zb_go (zg_aload_n rfl) rfl ?_
          refine zb_go (zg_getfield fX6_78 (by first | decide | assumption | omega) (by repeat (first | assumption | exact z_up_self _ _ _ | refine (z_up_ne (by first | decide | omega)).trans ?_)) (by rfl)) rfl ?_
          refine zb_go (zg_iload_n rfl) rfl ?_
          refine zb_go (zi_iaload (by first | decide | assumption | omega) (by repeat (first | assumption | exact z_up_self _ _ _ | refine (z_up_ne (by first | decide | omega)).trans ?_)) i4) rfl ?_
          refine zb_go (zg_iconst 2 (by decide)) rfl ?_
          refine zb_go (zg_iload_n rfl) rfl ?_
          refine zb_go zg_imul rfl ?_
          refine zb_go zg_ishr rfl ?_
          refine zb_go (zg_iconst 3 (by decide)) rfl ?_
          rw [eB]
          refine zb_go zg_iand rfl ?_
          rw [z_dig (by omega) hr2]
          have mA := Nat.mod_lt (A g / 4 ^ r) (show 0 < 4 by decide)
          have mB := Nat.mod_lt (B g / 4 ^ r) (show 0 < 4 by decide)
          refine zb_go (zg_istore (by decide)) rfl ?_
          refine zb_go (zg_iload rfl) rfl ?_
          refine zb_go (zg_iload rfl) rfl ?_
          refine zb_br (zg_icmp_eq (tgt := 60) (by decide)) rfl (fun c2 => ?_) (fun c2 => ?_)
          · have c2 := (nI_eq (by omega) (by omega)).mp c2
            refine kX6_isFirst_60 ?_
            refine zb_go (zg_iinc 1 (by decide) rfl (by decide)) rfl ?_
            refine zb_end (zg_goto (tgt := 10) (by decide) ?_) rfl
            rw [nI_1]
            refine ihg hg2 (fun k hk => ?_) [(4, _), (5, _)]
            by_cases w : k = g
            · rw [w]; exact c2
            · exact heg k (by omega)
          · have c2 : A g / 4 ^ r % 4 ≠ B g / 4 ^ r % 4 := fun w => c2 (by rw [w])
            refine zb_go (zg_iload rfl) rfl ?_
            refine zb_go (zg_iload rfl) rfl ?_
            refine zb_br (zg_icmp_ge (tgt := 58) (by decide)) rfl (fun c3 => ?_) (fun c3 => ?_)
            · have c3 := (nI_leI (by omega) (by omega)).mp c3
              have := bCod_lex (X := B) (Y := A) hr2 hg2 (by omega) (fun q k hq hk hw => (hall q k hq hk hw).symm)
              rw [decide_eq_false (by omega)] at hQ
              refine kX6_isFirst_58 ?_
              refine zb_go (zg_iconst 0 (by decide)) rfl ?_
              refine zb_out ?_
              refine kX6_isFirst_59 ?_
              refine zb_end (zg_ireturn rfl (by rfl) ?_) rfl
              exact hQ
            · have c3 : A g / 4 ^ r % 4 < B g / 4 ^ r % 4 := by
                rcases Nat.lt_or_ge (A g / 4 ^ r % 4) (B g / 4 ^ r % 4) with w | w
                · exact w
                · exact absurd (nI_le w (by omega)) c3
              rw [decide_eq_true (bCod_lex hr2 hg2 c3 hall)] at hQ
              refine zb_go (zg_iconst 1 (by decide)) rfl ?_
              refine zb_end (zg_goto (tgt := 59) (by decide) ?_) rfl
              refine kX6_isFirst_59 ?_
              refine zb_end (zg_ireturn rfl (by rfl) ?_) rfl
              exact hQ
      refine zb_go (zg_iconst 0 (by decide)) rfl ?_
      refine zb_go (zg_istore_n (by decide)) rfl ?_
      refine zb_out ?_
      exact lpH 0 (by omega) (fun k hk => by omega) []
  refine kX6_isFirst_0 ?_
  refine zb_go (zg_iconst 0 (by decide)) rfl ?_
  refine zb_go (zg_istore_n (by decide)) rfl ?_
  refine zb_out ?_
  exact lpR 0 (by omega) (fun q k _ _ hq => by omega) []
end
