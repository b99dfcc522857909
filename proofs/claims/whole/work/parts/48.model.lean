/-! THE MODEL (1): its cells -/
/-- the parish: the first half of each array -/
def mPar (h : zH) (P : zP) : Prop :=
  (∃ f, h 36 = .inl (0, 2, .inl f) ∧ f 0 = nI (pH P)) ∧ (∃ f, h 37 = .inl (0, 8, .inl f) ∧ ∀ i, i < pH P → f i = nI (pW P i)) ∧ (∃ f, h 38 = .inl (0, 2, .inl f) ∧ f 0 = nI (pR P)) ∧
  (∃ f, h 39 = .inl (0, 12, .inl f) ∧ ∀ i, i < pR P → f i = nI (pHo P i)) ∧ (∃ f, h 40 = .inl (0, 12, .inl f) ∧ ∀ i, i < pR P → f i = nI (pBe P i)) ∧ (∃ f, h 41 = .inl (0, 12, .inl f) ∧ ∀ i, i < pR P → f i = nI (pBu P i)) ∧ (∃ f, h 42 = .inl (0, 12, .inl f) ∧ ∀ i, i < pR P → f i = nI (pIl P i)) ∧
  (∃ f : Nat → Int32, h 43 = .inl (0, 2, .inl f)) ∧ (∃ f, h 44 = .inl (0, 2, .inl f) ∧ f 0 = nI (pTi P)) ∧ (∃ f, h 45 = .inl (0, 2, .inl f) ∧ f 0 = nI (pRe P))
/-- NOW, or an image, from a place of its array on -/
def mNow (f : Nat → Int32) (k : Nat) (T : zT) : Prop :=
  (∀ g b, g < 4 → b < 3 → f (k + 3 * g + b) = oI (zfst (fun r => decide (T.1 r g = b + 1)) 6)) ∧ f (k + 12) = nI T.2.1 ∧ ∀ g, g < 4 → f (k + 13 + g) = if T.2.2 g = 0 then -9 else nI (T.2.2 g - 1)
abbrev zX : Type := Int32 × Int32 × Int32 × Int32 × Int32 × Int32 × Int32 × Int32 × Int32 × Int32
def mObj (tr : Int64) (ty : Int32) (X : zX) : va_E := match X with
  | (at_, st, so, va, fa, to, mo, wa, fe, ev) => .inr (5, .long tr :: .ref 35 :: .int ty :: .ref 36 :: .ref 37 :: .ref 38 :: .ref 39 :: .ref 40 :: .ref 41 :: .ref 42 :: .ref 43 :: .ref 44 :: .ref 45 :: .int at_ :: .int st :: .int so :: .int va :: .int fa :: .int to :: .ref 46 :: .ref 47 :: .ref 48 :: .ref 49 :: .ref 50 :: .ref 51 :: .ref 52 :: .ref 53 :: .ref 54 :: .ref 55 :: .ref 56 :: .int mo :: .int wa :: .int fe :: .int ev :: .ref 57 :: .ref 58 :: [])
/-- room to work in -/
def mRoom (h : zH) : Prop := (∃ f : Nat → Int32, h 48 = .inl (0, 256, .inl f)) ∧ (∃ f : Nat → Int32, h 49 = .inl (0, 256, .inl f)) ∧ (∃ f : Nat → Int32, h 50 = .inl (0, 4, .inl f)) ∧ (∃ f : Nat → Int32, h 51 = .inl (0, 4, .inl f)) ∧ (∃ f : Nat → Int32, h 52 = .inl (0, 4, .inl f)) ∧
  (∃ f : Nat → Int32, h 53 = .inl (0, 5, .inl f) ∧ f 0 = 0) ∧ (∃ f : Nat → Int32, h 54 = .inl (0, 5, .inl f) ∧ f 0 = 0) ∧ (∃ f : Nat → Int32, h 55 = .inl (0, 5, .inl f) ∧ f 0 = 0) ∧ (∃ f : Nat → Int32, h 56 = .inl (0, 5, .inl f) ∧ f 0 = 0) ∧ (∃ f : Nat → Int32, h 57 = .inl (0, 4, .inl f)) ∧ ∃ f : Nat → Int32, h 58 = .inl (0, 4, .inl f)
def isByte (x : Int32) : Prop := x.toInt8.toInt32 = x
def mRel (h : zH) (G : zS) : Prop := ∃ X f kf, h 34 = mObj (gTr G) (nI (gLen G)) X ∧ (∃ tx, h 35 = .inl (1, 200, .inl tx) ∧ ∀ i, i < gLen G → tx i = gTx G i ∧ isByte (gTx G i)) ∧ mPar h (gP G) ∧ h 46 = .inl (0, 51, .inl f) ∧ mNow f 0 (gT G) ∧ h 47 = .inl (3, 2, .inl kf) ∧ (∀ i, i < 2 → kf i = if gK G i then 1 else 0) ∧ (∀ i, i < 2 → gK G i = true → mNow f (17 * (1 + i)) (gI G i)) ∧ mRoom h
section
variable {K : zK} {l : Launch} {n p q r g : Nat} {h h1 : zH} {x y z : Int32} {G : zS} {P : zP} {f : Nat → Int32} {T : zT}
theorem mPar.same {lo hi : Nat} (hP : mPar h P) (s : zSame lo hi h h1) (hp : 45 < lo ∨ hi < 36) : mPar h1 P := by
  obtain ⟨⟨f1, a1, b1⟩, ⟨f2, a2, b2⟩, ⟨f3, a3, b3⟩, ⟨f4, a4, b4⟩, ⟨f5, a5, b5⟩, ⟨f6, a6, b6⟩, ⟨f7, a7, b7⟩, ⟨f8, a8⟩, ⟨f9, a9, b9⟩, ⟨f10, a10, b10⟩⟩ := hP
  exact ⟨⟨f1, (s _ (by omega)).trans a1, b1⟩, ⟨f2, (s _ (by omega)).trans a2, b2⟩, ⟨f3, (s _ (by omega)).trans a3, b3⟩, ⟨f4, (s _ (by omega)).trans a4, b4⟩, ⟨f5, (s _ (by omega)).trans a5, b5⟩, ⟨f6, (s _ (by omega)).trans a6, b6⟩, ⟨f7, (s _ (by omega)).trans a7, b7⟩, ⟨f8, (s _ (by omega)).trans a8⟩, ⟨f9, (s _ (by omega)).trans a9, b9⟩, ⟨f10, (s _ (by omega)).trans a10, b10⟩⟩
theorem mRoom.same {lo hi : Nat} {h h1 : zH} (hR : mRoom h) (s : zSame lo hi h h1) (hp : 58 < lo ∨ hi < 48) : mRoom h1 := by
  obtain ⟨⟨r1, c1⟩, ⟨r2, c2⟩, ⟨r3, c3⟩, ⟨r4, c4⟩, ⟨r5, c5⟩, ⟨r6, c6, d6⟩, ⟨r7, c7, d7⟩, ⟨r8, c8, d8⟩, ⟨r9, c9, d9⟩, ⟨r10, c10⟩, ⟨r11, c11⟩⟩ := hR
  exact ⟨⟨r1, (s _ (by omega)).trans c1⟩, ⟨r2, (s _ (by omega)).trans c2⟩, ⟨r3, (s _ (by omega)).trans c3⟩, ⟨r4, (s _ (by omega)).trans c4⟩, ⟨r5, (s _ (by omega)).trans c5⟩, ⟨r6, (s _ (by omega)).trans c6, d6⟩, ⟨r7, (s _ (by omega)).trans c7, d7⟩, ⟨r8, (s _ (by omega)).trans c8, d8⟩, ⟨r9, (s _ (by omega)).trans c9, d9⟩, ⟨r10, (s _ (by omega)).trans c10⟩, ⟨r11, (s _ (by omega)).trans c11⟩⟩
/-- what most calls read: the parish and NOW -/
def mCore (h : zH) (P : zP) (f : Nat → Int32) : Prop := (∃ tr ty X, h 34 = mObj tr ty X) ∧ mPar h P ∧ h 46 = .inl (0, 51, .inl f)
theorem mCore.same {lo hi : Nat} (hM : mCore h P f) (s : zSame lo hi h h1) (hp : 46 < lo ∨ hi < 34) : mCore h1 P f := by
  obtain ⟨⟨tr, ty, X, a⟩, b, c⟩ := hM
  exact ⟨⟨tr, ty, X, (s _ (by omega)).trans a⟩, b.same s (by omega), (s _ (by omega)).trans c⟩
theorem mCore.up (hM : mCore h P f) (f' : Nat → Int32) : mCore (z_up h 46 (.inl (0, 51, .inl f'))) P f' := by
  obtain ⟨⟨tr, ty, X, a⟩, b, c⟩ := hM
  exact ⟨⟨tr, ty, X, (z_up_ne (by decide)).trans a⟩, b.same (lo := 46) (hi := 46) (zSame.rf.up (by omega) (by omega)) (by omega), z_up_self _ _ _⟩
theorem mRel.core (hM : mRel h G) : ∃ f, mCore h (gP G) f ∧ mNow f 0 (gT G) := by
  obtain ⟨X, f, kf, h1, ht, hP, h46, hN, hr⟩ := hM
  exact ⟨f, ⟨⟨_, _, X, h1⟩, hP, h46⟩, hN⟩
theorem mNow.congr {f' : Nat → Int32} {k k' : Nat} (h : mNow f k T) (he : ∀ j, j < 17 → f' (k' + j) = f (k + j)) : mNow f' k' T := by
  obtain ⟨h1, h2, h3⟩ := h
  refine ⟨fun g b hg hb => ?_, (he 12 (by omega)).trans h2, fun g hg => ?_⟩
  · have := he (3 * g + b) (by omega)
    rw [← Nat.add_assoc, ← Nat.add_assoc] at this
    rw [this]; exact h1 g b hg hb
  · have := he (13 + g) (by omega)
    rw [← Nat.add_assoc, ← Nat.add_assoc] at this
    rw [this]; exact h3 g hg
theorem mRel.now {f' : Nat → Int32} (hM : mRel h G) (h46 : h 46 = .inl (0, 51, .inl f)) (hN' : mNow f' 0 T) (hk : ∀ j, 17 ≤ j → f' j = f j) : mRel (z_up h 46 (.inl (0, 51, .inl f'))) (wT G T) := by
  obtain ⟨X, f0, kf, h1, ⟨tx, hx, ht⟩, hP, h46', hN, h47, hkf, hI, hR⟩ := hM
  have e := h46.symm.trans h46'
  simp only [Sum.inl.injEq, Prod.mk.injEq, true_and] at e
  subst e
  have s : zSame 46 46 h (z_up h 46 (.inl (0, 51, .inl f'))) := zSame.rf.up (by omega) (by omega)
  refine ⟨X, f', kf, (s 34 (by omega)).trans h1, ⟨tx, (s 35 (by omega)).trans hx, ht⟩, hP.same s (by omega), z_up_self _ _ _, hN', (s 47 (by omega)).trans h47, hkf, fun i hi hk2 => (hI i hi hk2).congr (fun j _ => hk _ (by omega)), hR.same s (by omega)⟩
theorem r_X6_in : zRet K l 0 mX6_in [.int x, .int y, .int z] n h (some (.int (if y ≤ x ∧ x ≤ z then 1 else 0))) h := by
  refine zRet.of (by decide) (Nat.le_of_ble_eq_true rfl) (fun Q hQ => ?_)
  refine kX6_in_0 ?_
  refine zb_go (zg_iload_n rfl) rfl ?_
  refine zb_go (zg_iload_n rfl) rfl ?_
  refine zb_br (zg_icmp_lt (tgt := 14) (by decide)) rfl (fun c0 => ?_) (fun c0 => ?_)
  · rw [if_neg (fun q => Int32.not_lt.mpr q.1 c0)] at hQ
    refine kX6_in_14 ?_
    refine zb_go (zg_iconst 0 (by decide)) rfl ?_
    refine zb_out ?_
    refine kX6_in_15 ?_
    refine zb_end (zg_ireturn rfl (by rfl) ?_) rfl
    exact hQ
  · have c0 := Int32.not_lt.mp c0
    refine zb_go (zg_iload_n rfl) rfl ?_
    refine zb_go (zg_iload_n rfl) rfl ?_
    refine zb_br (zg_icmp_gt (tgt := 14) (by decide)) rfl (fun c1 => ?_) (fun c1 => ?_)
    · rw [if_neg (fun q => Int32.not_lt.mpr q.2 c1)] at hQ
      refine kX6_in_14 ?_
      refine zb_go (zg_iconst 0 (by decide)) rfl ?_
      refine zb_out ?_
      refine kX6_in_15 ?_
      refine zb_end (zg_ireturn rfl (by rfl) ?_) rfl
      exact hQ
    · rw [if_pos ⟨c0, Int32.not_lt.mp c1⟩] at hQ
      refine zb_go (zg_iconst 1 (by decide)) rfl ?_
      refine zb_end (zg_goto (tgt := 15) (by decide) ?_) rfl
      refine kX6_in_15 ?_
      refine zb_end (zg_ireturn rfl (by rfl) ?_) rfl
      exact hQ
theorem r_X6_inT (hp : y ≤ x ∧ x ≤ z) : zRet K l 0 mX6_in [.int x, .int y, .int z] n h (some (.int 1)) h := by
  have := r_X6_in (K := K) (l := l) (n := n) (h := h) (x := x) (y := y) (z := z)
  rwa [if_pos hp] at this
theorem r_X6_inF (hp : ¬ (y ≤ x ∧ x ≤ z)) : zRet K l 0 mX6_in [.int x, .int y, .int z] n h (some (.int 0)) h := by
  have := r_X6_in (K := K) (l := l) (n := n) (h := h) (x := x) (y := y) (z := z)
  rwa [if_neg hp] at this
theorem z_nar {p : Prop} [Decidable p] : narrow FieldType.boolean (Value.int (if p then 1 else 0)) = Value.int (if p then 1 else 0) := by
  split <;> rfl
theorem z_out_le {N : Nat} (hN : N < 2 ^ 31) (ho : x.toInt < 0 ∨ (N : Int) < x.toInt) : ¬ (0 ≤ x ∧ x ≤ nI N) := by
  rintro ⟨h1, h2⟩
  have h1 : (0 : Int) ≤ x.toInt := by simpa using Int32.le_iff_toInt_le.mp h1
  have h2 := Int32.le_iff_toInt_le.mp h2
  rw [nI_toInt hN] at h2
  omega
theorem z_le1 {N : Nat} (hN : N < 2 ^ 31) : (0 ≤ x ∧ x ≤ nI N - 1) ↔ (0 ≤ x ∧ x < nI N) := by
  constructor
  · rintro ⟨h1, h2⟩
    refine ⟨h1, ?_⟩
    cases N with
    | zero => exact absurd (Int32.le_trans h1 h2) (by decide)
    | succ N =>
      rw [nI_pred] at h2
      obtain ⟨j, hj, rfl⟩ := nI_of (Int32.not_lt.mpr h1)
      have := (nI_leI hj (by omega)).mp h2
      exact nI_lt (by omega) hN
  · rintro ⟨h1, h2⟩
    refine ⟨h1, ?_⟩
    obtain ⟨j, hj, rfl⟩ := z_isIx hN ⟨h1, h2⟩
    cases N with
    | zero => omega
    | succ N =>
      rw [nI_pred]
      exact nI_le (by omega) (by omega)
theorem r_X6_isHour (hM : mCore h P f) (okp : okP P) : zRet K l 1 mX6_isHour [.ref 34, .int x] 59 h (some (.int (if 0 ≤ x ∧ x < nI (pH P) then 1 else 0))) h := by
  refine zRet.of (by decide) (Nat.le_of_ble_eq_true rfl) (fun Q hQ => ?_)
  obtain ⟨⟨tr, ty, ⟨at_, st, so, va, fa, to, mo, wa, fe, ev⟩, h1⟩, hP, h46⟩ := id hM
  have h1 : h 34 = .inr _ := h1
  obtain ⟨⟨f1, a1, b1⟩, ⟨f2, a2, b2⟩, ⟨f3, a3, b3⟩, ⟨f4, a4, b4⟩, ⟨f5, a5, b5⟩, ⟨f6, a6, b6⟩, ⟨f7, a7, b7⟩, ⟨f8, a8⟩, ⟨f9, a9, b9⟩, ⟨f10, a10, b10⟩⟩ := id hP
  have kH := okp.1
  have kR := okp.2.1
  refine kX6_isHour_0 ?_
  refine zb_go (zg_iload_n rfl) rfl ?_
  refine zb_go (zg_iconst 0 (by decide)) rfl ?_
  refine zb_go (zg_aload_n rfl) rfl ?_
  refine zb_go (zg_getfield fX6_13 (by first | decide | assumption | omega) (by repeat (first | assumption | exact z_up_self _ _ _ | refine (z_up_ne (by first | decide | omega)).trans ?_)) (by rfl)) rfl ?_
  refine zb_go (zg_iconst 0 (by decide)) rfl ?_
  refine zb_go (zi_iaload (by first | decide | assumption | omega) (by repeat (first | assumption | exact z_up_self _ _ _ | refine (z_up_ne (by first | decide | omega)).trans ?_)) (by first | assumption | exact zIx.nI (by omega) (by decide) | exact ⟨by decide, by decide⟩ | exact zIx.nI (k := 0) (by decide) (by decide) | exact zIx.nI (k := 1) (by decide) (by decide) | exact zIx.nI (k := 2) (by decide) (by decide) | exact zIx.nI (k := 3) (by decide) (by decide))) rfl ?_
  refine zb_go (zg_iconst 1 (by decide)) rfl ?_
  rw [b1]
  refine zb_go zg_isub rfl ?_
  refine zb_calls (r_X6_in) lX6_87 rfl (by first | decide | omega) rfl (Nat.le_of_ble_eq_true rfl) rfl ?_
  refine zb_end (zg_ireturn rfl z_nar ?_) rfl
  rw [z_ifc (z_le1 (by omega))]
  exact hQ
theorem r_X6_isRinger (hM : mCore h P f) (okp : okP P) : zRet K l 1 mX6_isRinger [.ref 34, .int x] 59 h (some (.int (if 0 ≤ x ∧ x < nI (pR P) then 1 else 0))) h := by
  refine zRet.of (by decide) (Nat.le_of_ble_eq_true rfl) (fun Q hQ => ?_)
  obtain ⟨⟨tr, ty, ⟨at_, st, so, va, fa, to, mo, wa, fe, ev⟩, h1⟩, hP, h46⟩ := id hM
  have h1 : h 34 = .inr _ := h1
  obtain ⟨⟨f1, a1, b1⟩, ⟨f2, a2, b2⟩, ⟨f3, a3, b3⟩, ⟨f4, a4, b4⟩, ⟨f5, a5, b5⟩, ⟨f6, a6, b6⟩, ⟨f7, a7, b7⟩, ⟨f8, a8⟩, ⟨f9, a9, b9⟩, ⟨f10, a10, b10⟩⟩ := id hP
  have kH := okp.1
  have kR := okp.2.1
  refine kX6_isRinger_0 ?_
  refine zb_go (zg_iload_n rfl) rfl ?_
  refine zb_go (zg_iconst 0 (by decide)) rfl ?_
  refine zb_go (zg_aload_n rfl) rfl ?_
  refine zb_go (zg_getfield fX6_20 (by first | decide | assumption | omega) (by repeat (first | assumption | exact z_up_self _ _ _ | refine (z_up_ne (by first | decide | omega)).trans ?_)) (by rfl)) rfl ?_
  refine zb_go (zg_iconst 0 (by decide)) rfl ?_
  refine zb_go (zi_iaload (by first | decide | assumption | omega) (by repeat (first | assumption | exact z_up_self _ _ _ | refine (z_up_ne (by first | decide | omega)).trans ?_)) (by first | assumption | exact zIx.nI (by omega) (by decide) | exact ⟨by decide, by decide⟩ | exact zIx.nI (k := 0) (by decide) (by decide) | exact zIx.nI (k := 1) (by decide) (by decide) | exact zIx.nI (k := 2) (by decide) (by decide) | exact zIx.nI (k := 3) (by decide) (by decide))) rfl ?_
  refine zb_go (zg_iconst 1 (by decide)) rfl ?_
  rw [b3]
  refine zb_go zg_isub rfl ?_
  refine zb_calls (r_X6_in) lX6_87 rfl (by first | decide | omega) rfl (Nat.le_of_ble_eq_true rfl) rfl ?_
  refine zb_end (zg_ireturn rfl z_nar ?_) rfl
  rw [z_ifc (z_le1 (by omega))]
  exact hQ
theorem r_X6_isWanted (hM : mCore h P f) (okp : okP P) : zRet K l 2 mX6_isWanted [.ref 34, .int y, .int z] 59 h (some (.int (if (0 ≤ y ∧ y < nI (pH P)) ∧ 0 ≤ z ∧ z < nI (pW P y.toNatClampNeg) then 1 else 0))) h := by
  refine zRet.of (by decide) (Nat.le_of_ble_eq_true rfl) (fun Q hQ => ?_)
  obtain ⟨⟨tr, ty, ⟨at_, st, so, va, fa, to, mo, wa, fe, ev⟩, h1⟩, hP, h46⟩ := id hM
  have h1 : h 34 = .inr _ := h1
  obtain ⟨⟨f1, a1, b1⟩, ⟨f2, a2, b2⟩, ⟨f3, a3, b3⟩, ⟨f4, a4, b4⟩, ⟨f5, a5, b5⟩, ⟨f6, a6, b6⟩, ⟨f7, a7, b7⟩, ⟨f8, a8⟩, ⟨f9, a9, b9⟩, ⟨f10, a10, b10⟩⟩ := id hP
  have kH := okp.1
  have kR := okp.2.1
  refine kX6_isWanted_0 ?_
  refine zb_go (zg_aload_n rfl) rfl ?_
  refine zb_go (zg_iload_n rfl) rfl ?_
  refine zb_callv (r_X6_isHour hM okp) lX6_137 (by repeat (first | assumption | exact z_up_self _ _ _ | refine (z_up_ne (by first | decide | omega)).trans ?_)) rfl rfl (by first | decide | assumption | omega) (by first | decide | omega) rfl (Nat.le_of_ble_eq_true rfl) rfl ?_
  refine zb_br (zg_if_eq (tgt := 28) (by decide)) rfl (fun c0 => ?_) (fun c0 => ?_)
  · rw [if_neg (fun q => zb_0.mp c0 q.1)] at hQ
    refine kX6_isWanted_28 ?_
    refine zb_go (zg_iconst 0 (by decide)) rfl ?_
    refine zb_out ?_
    refine kX6_isWanted_29 ?_
    refine zb_end (zg_ireturn rfl (by rfl) ?_) rfl
    exact hQ
  · have c0 := zb_n.mp c0
    obtain ⟨g, hg, rfl⟩ := z_isIx (by omega) c0
    rw [nI_clamp (by omega)] at hQ
    have hw := okp.2.2.2.2.2.1 g hg
    refine zb_go (zg_iload_n rfl) rfl ?_
    refine zb_go (zg_iconst 0 (by decide)) rfl ?_
    refine zb_go (zg_aload_n rfl) rfl ?_
    refine zb_go (zg_getfield fX6_17 (by first | decide | assumption | omega) (by repeat (first | assumption | exact z_up_self _ _ _ | refine (z_up_ne (by first | decide | omega)).trans ?_)) (by rfl)) rfl ?_
    refine zb_go (zg_iload_n rfl) rfl ?_
    refine zb_go (zi_iaload (by first | decide | assumption | omega) (by repeat (first | assumption | exact z_up_self _ _ _ | refine (z_up_ne (by first | decide | omega)).trans ?_)) (by first | assumption | exact zIx.nI (by omega) (by decide) | exact ⟨by decide, by decide⟩ | exact zIx.nI (k := 0) (by decide) (by decide) | exact zIx.nI (k := 1) (by decide) (by decide) | exact zIx.nI (k := 2) (by decide) (by decide) | exact zIx.nI (k := 3) (by decide) (by decide))) rfl ?_
    rw [b2 g hg]
    refine zb_go (zg_iconst 1 (by decide)) rfl ?_
    refine zb_go zg_isub rfl ?_
    refine zb_calls (r_X6_in) lX6_87 rfl (by first | decide | omega) rfl (Nat.le_of_ble_eq_true rfl) rfl ?_
    refine zb_br (zg_if_eq (tgt := 28) (by decide)) rfl (fun c1 => ?_) (fun c1 => ?_)
    · rw [if_neg (fun q => zb_0.mp c1 ((z_le1 (by omega)).mpr q.2))] at hQ
      refine kX6_isWanted_28 ?_
      refine zb_go (zg_iconst 0 (by decide)) rfl ?_
      refine zb_out ?_
      refine kX6_isWanted_29 ?_
      refine zb_end (zg_ireturn rfl (by rfl) ?_) rfl
      exact hQ
    · rw [if_pos ⟨c0, (z_le1 (by omega)).mp (zb_n.mp c1)⟩] at hQ
      refine zb_go (zg_iconst 1 (by decide)) rfl ?_
      refine zb_end (zg_goto (tgt := 29) (by decide) ?_) rfl
      refine kX6_isWanted_29 ?_
      refine zb_end (zg_ireturn rfl (by rfl) ?_) rfl
      exact hQ
theorem z_ix3 {g b : Nat} (hg : g < 4) (hb : b < 3) : zIx (3 * nI g + nI b) 51 (3 * g + b) := by
  rw [show (3 : Int32) = nI 3 from rfl, pk_mul, nI_add]
  exact zIx.nI (by omega) (by decide)
/-- the last bell below k of an hour at which x stands -/
def bF (f : Nat → Int32) (x : Int32) (g : Nat) : Nat → Int32
  | 0 => -9
  | b + 1 => if f (3 * g + b) = x then nI b else bF f x g b
theorem z_not_le {k N : Nat} (hN : N < 2 ^ 31) (hk : k ≤ N) (c : ¬ nI N ≤ nI k) : k < N := by
  rcases Nat.lt_or_ge k N with q | q
  · exact q
  · exact absurd (nI_le q (by omega)) c
theorem z_is_le {k N : Nat} (hN : N < 2 ^ 31) (hk : k ≤ N) (c : nI N ≤ nI k) : k = N := by
  have q := (nI_leI (a := N) (b := k) hN (by omega)).mp c
  omega
theorem r_X6_bellOf (hM : mCore h P f) (okp : okP P) (hg : g < 4) : zRet K l 0 mX6_bellOf [.ref 34, .int x, .int (nI g)] 59 h (some (.int (bF f x g 3))) h := by
  refine zRet.of (by decide) (Nat.le_of_ble_eq_true rfl) (fun Q hQ => ?_)
  obtain ⟨⟨tr, ty, ⟨at_, st, so, va, fa, to, mo, wa, fe, ev⟩, h1⟩, hP, h46⟩ := id hM
  have h1 : h 34 = .inr _ := h1
  obtain ⟨⟨f1, a1, b1⟩, ⟨f2, a2, b2⟩, ⟨f3, a3, b3⟩, ⟨f4, a4, b4⟩, ⟨f5, a5, b5⟩, ⟨f6, a6, b6⟩, ⟨f7, a7, b7⟩, ⟨f8, a8⟩, ⟨f9, a9, b9⟩, ⟨f10, a10, b10⟩⟩ := id hP
  have kH := okp.1
  have kR := okp.2.1
  have lp : ∀ k, k ≤ 3 → zGo K l 0 mX6_bellOf 6 [(0, .ref 34), (1, .int x), (2, .int (nI g)), (3, .int (bF f x g k)), (4, .int (nI k))] [] 59 h 0 0 Q := by
    refine z_down 3 (fun k hk ih => ?_)
    refine kX6_bellOf_6 ?_
    refine zb_go (zg_iload rfl) rfl ?_
    refine zb_go (zg_iconst 3 (by decide)) rfl ?_
    refine zb_br (zg_icmp_ge (tgt := 40) (by decide)) rfl (fun c => ?_) (fun c => ?_)
    · obtain rfl := z_is_le (by decide) hk c
      refine kX6_bellOf_40 ?_
      refine zb_go (zg_iload_n rfl) rfl ?_
      refine zb_end (zg_ireturn rfl (by rfl) ?_) rfl
      exact hQ
    · have hk4 := z_not_le (by decide) hk c
      refine zb_go (zg_aload_n rfl) rfl ?_
      refine zb_go (zg_getfield fX6_44 (by first | decide | assumption | omega) (by repeat (first | assumption | exact z_up_self _ _ _ | refine (z_up_ne (by first | decide | omega)).trans ?_)) (by rfl)) rfl ?_
      refine zb_go (zg_iconst 3 (by decide)) rfl ?_
      refine zb_go (zg_iload_n rfl) rfl ?_
      refine zb_go zg_imul rfl ?_
      refine zb_go (zg_iload rfl) rfl ?_
      refine zb_go zg_iadd rfl ?_
      refine zb_go (zi_iaload (by first | decide | assumption | omega) (by repeat (first | assumption | exact z_up_self _ _ _ | refine (z_up_ne (by first | decide | omega)).trans ?_)) (z_ix3 hg hk4)) rfl ?_
      refine zb_go (zg_iload_n rfl) rfl ?_
      refine zb_br (zg_icmp_ne (tgt := 32) (by decide)) rfl (fun c => ?_) (fun c => ?_)
      · have e : bF f x g (k + 1) = bF f x g k := by simp only [bF, if_neg c]
        refine kX6_bellOf_32 ?_
        refine zb_go (zg_iload_n rfl) rfl ?_
        refine zb_out ?_
        refine kX6_bellOf_33 ?_
        refine zb_go (zg_istore_n (by decide)) rfl ?_
        refine zb_go (zg_iinc 1 (by decide) rfl (by decide)) rfl ?_
        refine zb_end (zg_goto (tgt := 6) (by decide) ?_) rfl
        rw [nI_1, ← e]
        exact ih hk4
      · have e : bF f x g (k + 1) = nI k := by simp only [bF, if_pos c]
        refine zb_go (zg_iload rfl) rfl ?_
        refine zb_end (zg_goto (tgt := 33) (by decide) ?_) rfl
        refine kX6_bellOf_33 ?_
        refine zb_go (zg_istore_n (by decide)) rfl ?_
        refine zb_go (zg_iinc 1 (by decide) rfl (by decide)) rfl ?_
        refine zb_end (zg_goto (tgt := 6) (by decide) ?_) rfl
        rw [nI_1, ← e]
        exact ih hk4
  refine kX6_bellOf_0 ?_
  refine zb_go (zg_bipush (-9) (by decide)) rfl ?_
  refine zb_go (zg_istore_n (by decide)) rfl ?_
  refine zb_go (zg_iconst 0 (by decide)) rfl ?_
  refine zb_go (zg_istore (by decide)) rfl ?_
  refine zb_out ?_
  exact lp 0 (by omega)
def mTm (f : Nat → Int32) (x : Int32) : Nat → Nat := zcnt (fun g => decide (bF f x g 3 ≠ -9))
theorem r_X6_timesOf (hM : mCore h P f) (okp : okP P) : zRet K l 1 mX6_timesOf [.ref 34, .int x] 59 h (some (.int (nI (mTm f x 4)))) h := by
  refine zRet.of (by decide) (Nat.le_of_ble_eq_true rfl) (fun Q hQ => ?_)
  obtain ⟨⟨tr, ty, ⟨at_, st, so, va, fa, to, mo, wa, fe, ev⟩, h1⟩, hP, h46⟩ := id hM
  have h1 : h 34 = .inr _ := h1
  obtain ⟨⟨f1, a1, b1⟩, ⟨f2, a2, b2⟩, ⟨f3, a3, b3⟩, ⟨f4, a4, b4⟩, ⟨f5, a5, b5⟩, ⟨f6, a6, b6⟩, ⟨f7, a7, b7⟩, ⟨f8, a8⟩, ⟨f9, a9, b9⟩, ⟨f10, a10, b10⟩⟩ := id hP
  have kH := okp.1
  have kR := okp.2.1
  have lp : ∀ k, k ≤ 4 → zGo K l 1 mX6_timesOf 4 [(0, .ref 34), (1, .int x), (2, .int (nI (mTm f x k))), (3, .int (nI k))] [] 59 h 0 0 Q := by
    refine z_down 4 (fun k hk ih => ?_)
    refine kX6_timesOf_4 ?_
    refine zb_go (zg_iload_n rfl) rfl ?_
    refine zb_go (zg_iconst 4 (by decide)) rfl ?_
    refine zb_br (zg_icmp_ge (tgt := 34) (by decide)) rfl (fun c => ?_) (fun c => ?_)
    · obtain rfl := z_is_le (by decide) hk c
      refine kX6_timesOf_34 ?_
      refine zb_go (zg_iload_n rfl) rfl ?_
      refine zb_end (zg_ireturn rfl (by rfl) ?_) rfl
      exact hQ
    · have hk4 := z_not_le (by decide) hk c
      refine zb_go (zg_iload_n rfl) rfl ?_
      refine zb_go (zg_aload_n rfl) rfl ?_
      refine zb_go (zg_iload_n rfl) rfl ?_
      refine zb_go (zg_iload_n rfl) rfl ?_
      refine zb_callv (r_X6_bellOf hM okp hk4) lX6_141 (by repeat (first | assumption | exact z_up_self _ _ _ | refine (z_up_ne (by first | decide | omega)).trans ?_)) rfl rfl (by first | decide | assumption | omega) (by first | decide | omega) rfl (Nat.le_of_ble_eq_true rfl) rfl ?_
      refine zb_go (zg_bipush (-9) (by decide)) rfl ?_
      refine zb_br (zg_icmp_ne (tgt := 25) (by decide)) rfl (fun c => ?_) (fun c => ?_)
      · have e : mTm f x (k + 1) = mTm f x k + 1 := by simp only [mTm, zcnt, decide_eq_true_eq, if_pos c]
        refine kX6_timesOf_25 ?_
        refine zb_go (zg_iconst 1 (by decide)) rfl ?_
        refine zb_out ?_
        refine kX6_timesOf_26 ?_
        refine zb_go zg_iadd rfl ?_
        refine zb_go (zg_istore_n (by decide)) rfl ?_
        refine zb_go (zg_iinc 1 (by decide) rfl (by decide)) rfl ?_
        refine zb_end (zg_goto (tgt := 4) (by decide) ?_) rfl
        rw [nI_1, nI_1, ← e]
        exact ih hk4
      · have e : mTm f x (k + 1) = mTm f x k := by simp only [mTm, zcnt, decide_eq_true_eq, if_neg (show ¬ bF f x k 3 ≠ -9 from fun z => z c), Nat.add_zero]
        refine zb_go (zg_iconst 0 (by decide)) rfl ?_
        refine zb_end (zg_goto (tgt := 26) (by decide) ?_) rfl
        refine kX6_timesOf_26 ?_
        refine zb_go zg_iadd rfl ?_
        refine zb_go (zg_istore_n (by decide)) rfl ?_
        refine zb_go (zg_iinc 1 (by decide) rfl (by decide)) rfl ?_
        refine zb_end (zg_goto (tgt := 4) (by decide) ?_) rfl
        rw [show nI (mTm f x k) + 0 = nI (mTm f x k) from Int32.add_zero _, nI_1, ← e]
        exact ih hk4
  refine kX6_timesOf_0 ?_
  refine zb_go (zg_iconst 0 (by decide)) rfl ?_
  refine zb_go (zg_istore_n (by decide)) rfl ?_
  refine zb_go (zg_iconst 0 (by decide)) rfl ?_
  refine zb_go (zg_istore_n (by decide)) rfl ?_
  refine zb_out ?_
  exact lp 0 (by omega)
def mIn (f : Nat → Int32) (g : Nat) : Nat → Nat := zcnt (fun b => decide (f (3 * g + b) ≠ -9))
theorem r_X6_inRota (hM : mCore h P f) (okp : okP P) (hg : g < 4) : zRet K l 0 mX6_inRota [.ref 34, .int (nI g)] 59 h (some (.int (nI (mIn f g 3)))) h := by
  refine zRet.of (by decide) (Nat.le_of_ble_eq_true rfl) (fun Q hQ => ?_)
  obtain ⟨⟨tr, ty, ⟨at_, st, so, va, fa, to, mo, wa, fe, ev⟩, h1⟩, hP, h46⟩ := id hM
  have h1 : h 34 = .inr _ := h1
  obtain ⟨⟨f1, a1, b1⟩, ⟨f2, a2, b2⟩, ⟨f3, a3, b3⟩, ⟨f4, a4, b4⟩, ⟨f5, a5, b5⟩, ⟨f6, a6, b6⟩, ⟨f7, a7, b7⟩, ⟨f8, a8⟩, ⟨f9, a9, b9⟩, ⟨f10, a10, b10⟩⟩ := id hP
  have kH := okp.1
  have kR := okp.2.1
  have lp : ∀ k, k ≤ 3 → zGo K l 0 mX6_inRota 4 [(0, .ref 34), (1, .int (nI g)), (2, .int (nI (mIn f g k))), (3, .int (nI k))] [] 59 h 0 0 Q := by
    refine z_down 3 (fun k hk ih => ?_)
    refine kX6_inRota_4 ?_
    refine zb_go (zg_iload_n rfl) rfl ?_
    refine zb_go (zg_iconst 3 (by decide)) rfl ?_
    refine zb_br (zg_icmp_ge (tgt := 38) (by decide)) rfl (fun c => ?_) (fun c => ?_)
    · obtain rfl := z_is_le (by decide) hk c
      refine kX6_inRota_38 ?_
      refine zb_go (zg_iload_n rfl) rfl ?_
      refine zb_end (zg_ireturn rfl (by rfl) ?_) rfl
      exact hQ
    · have hk4 := z_not_le (by decide) hk c
      refine zb_go (zg_iload_n rfl) rfl ?_
      refine zb_go (zg_aload_n rfl) rfl ?_
      refine zb_go (zg_getfield fX6_44 (by first | decide | assumption | omega) (by repeat (first | assumption | exact z_up_self _ _ _ | refine (z_up_ne (by first | decide | omega)).trans ?_)) (by rfl)) rfl ?_
      refine zb_go (zg_iconst 3 (by decide)) rfl ?_
      refine zb_go (zg_iload_n rfl) rfl ?_
      refine zb_go zg_imul rfl ?_
      refine zb_go (zg_iload_n rfl) rfl ?_
      refine zb_go zg_iadd rfl ?_
      refine zb_go (zi_iaload (by first | decide | assumption | omega) (by repeat (first | assumption | exact z_up_self _ _ _ | refine (z_up_ne (by first | decide | omega)).trans ?_)) (z_ix3 hg hk4)) rfl ?_
      refine zb_go (zg_bipush (-9) (by decide)) rfl ?_
      refine zb_br (zg_icmp_ne (tgt := 29) (by decide)) rfl (fun c => ?_) (fun c => ?_)
      · have e : mIn f g (k + 1) = mIn f g k + 1 := by simp only [mIn, zcnt, decide_eq_true_eq, if_pos c]
        refine kX6_inRota_29 ?_
        refine zb_go (zg_iconst 1 (by decide)) rfl ?_
        refine zb_out ?_
        refine kX6_inRota_30 ?_
        refine zb_go zg_iadd rfl ?_
        refine zb_go (zg_istore_n (by decide)) rfl ?_
        refine zb_go (zg_iinc 1 (by decide) rfl (by decide)) rfl ?_
        refine zb_end (zg_goto (tgt := 4) (by decide) ?_) rfl
        rw [nI_1, nI_1, ← e]
        exact ih hk4
      · have e : mIn f g (k + 1) = mIn f g k := by simp only [mIn, zcnt, decide_eq_true_eq, if_neg (show ¬ f (3 * g + k) ≠ -9 from fun z => z c), Nat.add_zero]
        refine zb_go (zg_iconst 0 (by decide)) rfl ?_
        refine zb_end (zg_goto (tgt := 30) (by decide) ?_) rfl
        refine kX6_inRota_30 ?_
        refine zb_go zg_iadd rfl ?_
        refine zb_go (zg_istore_n (by decide)) rfl ?_
        refine zb_go (zg_iinc 1 (by decide) rfl (by decide)) rfl ?_
        refine zb_end (zg_goto (tgt := 4) (by decide) ?_) rfl
        rw [show nI (mIn f g k) + 0 = nI (mIn f g k) from Int32.add_zero _, nI_1, ← e]
        exact ih hk4
  refine kX6_inRota_0 ?_
  refine zb_go (zg_iconst 0 (by decide)) rfl ?_
  refine zb_go (zg_istore_n (by decide)) rfl ?_
  refine zb_go (zg_iconst 0 (by decide)) rfl ?_
  refine zb_go (zg_istore_n (by decide)) rfl ?_
  refine zb_out ?_
  exact lp 0 (by omega)
def mAll (f : Nat → Int32) : Nat := zsum (fun g => mIn f g 3) 4
theorem r_X6_allInRota (hM : mCore h P f) (okp : okP P) : zRet K l 1 mX6_allInRota [.ref 34] 59 h (some (.int (nI (mAll f)))) h := by
  refine zRet.of (by decide) (Nat.le_of_ble_eq_true rfl) (fun Q hQ => ?_)
  obtain ⟨⟨tr, ty, ⟨at_, st, so, va, fa, to, mo, wa, fe, ev⟩, h1⟩, hP, h46⟩ := id hM
  have h1 : h 34 = .inr _ := h1
  obtain ⟨⟨f1, a1, b1⟩, ⟨f2, a2, b2⟩, ⟨f3, a3, b3⟩, ⟨f4, a4, b4⟩, ⟨f5, a5, b5⟩, ⟨f6, a6, b6⟩, ⟨f7, a7, b7⟩, ⟨f8, a8⟩, ⟨f9, a9, b9⟩, ⟨f10, a10, b10⟩⟩ := id hP
  have kH := okp.1
  have kR := okp.2.1
  refine kX6_allInRota_0 ?_
  refine zb_go (zg_aload_n rfl) rfl ?_
  refine zb_go (zg_iconst 0 (by decide)) rfl ?_
  refine zb_callv (r_X6_inRota (g := 0) hM okp (by decide)) lX6_144 (by repeat (first | assumption | exact z_up_self _ _ _ | refine (z_up_ne (by first | decide | omega)).trans ?_)) rfl rfl (by first | decide | assumption | omega) (by first | decide | omega) rfl (Nat.le_of_ble_eq_true rfl) rfl ?_
  refine zb_go (zg_aload_n rfl) rfl ?_
  refine zb_go (zg_iconst 1 (by decide)) rfl ?_
  refine zb_callv (r_X6_inRota (g := 1) hM okp (by decide)) lX6_144 (by repeat (first | assumption | exact z_up_self _ _ _ | refine (z_up_ne (by first | decide | omega)).trans ?_)) rfl rfl (by first | decide | assumption | omega) (by first | decide | omega) rfl (Nat.le_of_ble_eq_true rfl) rfl ?_
  refine zb_go zg_iadd rfl ?_
  refine zb_go (zg_aload_n rfl) rfl ?_
  refine zb_go (zg_iconst 2 (by decide)) rfl ?_
  refine zb_callv (r_X6_inRota (g := 2) hM okp (by decide)) lX6_144 (by repeat (first | assumption | exact z_up_self _ _ _ | refine (z_up_ne (by first | decide | omega)).trans ?_)) rfl rfl (by first | decide | assumption | omega) (by first | decide | omega) rfl (Nat.le_of_ble_eq_true rfl) rfl ?_
  refine zb_go zg_iadd rfl ?_
  refine zb_go (zg_aload_n rfl) rfl ?_
  refine zb_go (zg_iconst 3 (by decide)) rfl ?_
  refine zb_callv (r_X6_inRota (g := 3) hM okp (by decide)) lX6_144 (by repeat (first | assumption | exact z_up_self _ _ _ | refine (z_up_ne (by first | decide | omega)).trans ?_)) rfl rfl (by first | decide | assumption | omega) (by first | decide | omega) rfl (Nat.le_of_ble_eq_true rfl) rfl ?_
  refine zb_go zg_iadd rfl ?_
  refine zb_end (zg_ireturn rfl (by rfl) ?_) rfl
  rw [nI_add, nI_add, nI_add]
  have e : mAll f = mIn f 0 3 + mIn f 1 3 + mIn f 2 3 + mIn f 3 3 := by simp only [mAll, zsum, Nat.zero_add]
  rw [← e]
  exact hQ
theorem r_X6_wayOf {w : Nat} (hM : mCore h P f) (okp : okP P) (hr : r < pR P) (hw : w < 2 ^ 30) : zRet K l 0 mX6_wayOf [.ref 34, .int (nI r), .int (nI w)] 59 h (some (.int (nI (zdist (pHo P r) w)))) h := by
  refine zRet.of (by decide) (Nat.le_of_ble_eq_true rfl) (fun Q hQ => ?_)
  obtain ⟨⟨tr, ty, ⟨at_, st, so, va, fa, to, mo, wa, fe, ev⟩, h1⟩, hP, h46⟩ := id hM
  have h1 : h 34 = .inr _ := h1
  obtain ⟨⟨f1, a1, b1⟩, ⟨f2, a2, b2⟩, ⟨f3, a3, b3⟩, ⟨f4, a4, b4⟩, ⟨f5, a5, b5⟩, ⟨f6, a6, b6⟩, ⟨f7, a7, b7⟩, ⟨f8, a8⟩, ⟨f9, a9, b9⟩, ⟨f10, a10, b10⟩⟩ := id hP
  have kH := okp.1
  have kR := okp.2.1
  have hh := (okp.2.2.2.2.2.2 r hr).1
  have i12 : zIx (nI r) 12 r := zIx.nI (by omega) (by decide)
  refine kX6_wayOf_0 ?_
  refine zb_go (zg_aload_n rfl) rfl ?_
  refine zb_go (zg_getfield fX6_23 (by first | decide | assumption | omega) (by repeat (first | assumption | exact z_up_self _ _ _ | refine (z_up_ne (by first | decide | omega)).trans ?_)) (by rfl)) rfl ?_
  refine zb_go (zg_iload_n rfl) rfl ?_
  refine zb_go (zi_iaload (by first | decide | assumption | omega) (by repeat (first | assumption | exact z_up_self _ _ _ | refine (z_up_ne (by first | decide | omega)).trans ?_)) i12) rfl ?_
  refine zb_go (zg_iload_n rfl) rfl ?_
  refine zb_br (zg_icmp_ge (tgt := 21) (by decide)) rfl (fun c => ?_) (fun c => ?_)
  · rw [b4 r hr] at c
    have c := (nI_leI (by omega) (by omega)).mp c
    refine kX6_wayOf_21 ?_
    refine zb_go (zg_aload_n rfl) rfl ?_
    refine zb_go (zg_getfield fX6_23 (by first | decide | assumption | omega) (by repeat (first | assumption | exact z_up_self _ _ _ | refine (z_up_ne (by first | decide | omega)).trans ?_)) (by rfl)) rfl ?_
    refine zb_go (zg_iload_n rfl) rfl ?_
    refine zb_go (zi_iaload (by first | decide | assumption | omega) (by repeat (first | assumption | exact z_up_self _ _ _ | refine (z_up_ne (by first | decide | omega)).trans ?_)) i12) rfl ?_
    refine zb_go (zg_iload_n rfl) rfl ?_
    refine zb_go zg_isub rfl ?_
    refine zb_out ?_
    refine kX6_wayOf_29 ?_
    refine zb_end (zg_ireturn rfl (by rfl) ?_) rfl
    rw [b4 r hr, pk_sub c]
    have e : zdist (pHo P r) w = pHo P r - w := by unfold zdist; split <;> omega
    rw [← e]; exact hQ
  · rw [b4 r hr] at c
    have c : ¬ w ≤ pHo P r := fun z => c ((nI_leI (by omega) (by omega)).mpr z)
    refine zb_go (zg_iload_n rfl) rfl ?_
    refine zb_go (zg_aload_n rfl) rfl ?_
    refine zb_go (zg_getfield fX6_23 (by first | decide | assumption | omega) (by repeat (first | assumption | exact z_up_self _ _ _ | refine (z_up_ne (by first | decide | omega)).trans ?_)) (by rfl)) rfl ?_
    refine zb_go (zg_iload_n rfl) rfl ?_
    refine zb_go (zi_iaload (by first | decide | assumption | omega) (by repeat (first | assumption | exact z_up_self _ _ _ | refine (z_up_ne (by first | decide | omega)).trans ?_)) i12) rfl ?_
    refine zb_go zg_isub rfl ?_
    refine zb_end (zg_goto (tgt := 29) (by decide) ?_) rfl
    refine kX6_wayOf_29 ?_
    refine zb_end (zg_ireturn rfl (by rfl) ?_) rfl
    rw [b4 r hr, pk_sub (by omega)]
    have e : zdist (pHo P r) w = w - pHo P r := by unfold zdist; split <;> omega
    rw [← e]; exact hQ
def mWk (P : zP) (f : Nat → Int32) (w : Nat) : Nat → Nat := zsum (fun r => 2 * mTm f (nI r) 4 * zdist (pHo P r) w)
theorem r_X6_walkTo {w : Nat} (hM : mCore h P f) (okp : okP P) (hw : w < 2 ^ 30) : zRet K l 2 mX6_walkTo [.ref 34, .int (nI w)] 59 h (some (.int (nI (mWk P f w (pR P))))) h := by
  refine zRet.of (by decide) (Nat.le_of_ble_eq_true rfl) (fun Q hQ => ?_)
  obtain ⟨⟨tr, ty, ⟨at_, st, so, va, fa, to, mo, wa, fe, ev⟩, h1⟩, hP, h46⟩ := id hM
  have h1 : h 34 = .inr _ := h1
  obtain ⟨⟨f1, a1, b1⟩, ⟨f2, a2, b2⟩, ⟨f3, a3, b3⟩, ⟨f4, a4, b4⟩, ⟨f5, a5, b5⟩, ⟨f6, a6, b6⟩, ⟨f7, a7, b7⟩, ⟨f8, a8⟩, ⟨f9, a9, b9⟩, ⟨f10, a10, b10⟩⟩ := id hP
  have kH := okp.1
  have kR := okp.2.1
  have lp : ∀ k, k ≤ pR P → zGo K l 2 mX6_walkTo 4 [(0, .ref 34), (1, .int (nI w)), (2, .int (nI (mWk P f w k))), (3, .int (nI k))] [] 59 h 0 0 Q := by
    refine z_down (pR P) (fun k hk ih => ?_)
    refine kX6_walkTo_4 ?_
    refine zb_go (zg_iload_n rfl) rfl ?_
    refine zb_go (zg_aload_n rfl) rfl ?_
    refine zb_go (zg_getfield fX6_20 (by first | decide | assumption | omega) (by repeat (first | assumption | exact z_up_self _ _ _ | refine (z_up_ne (by first | decide | omega)).trans ?_)) (by rfl)) rfl ?_
    refine zb_go (zg_iconst 0 (by decide)) rfl ?_
    refine zb_go (zi_iaload (by first | decide | assumption | omega) (by repeat (first | assumption | exact z_up_self _ _ _ | refine (z_up_ne (by first | decide | omega)).trans ?_)) (by first | assumption | exact zIx.nI (by omega) (by decide) | exact ⟨by decide, by decide⟩ | exact zIx.nI (k := 0) (by decide) (by decide) | exact zIx.nI (k := 1) (by decide) (by decide) | exact zIx.nI (k := 2) (by decide) (by decide) | exact zIx.nI (k := 3) (by decide) (by decide))) rfl ?_
    rw [b3]
    refine zb_br (zg_icmp_ge (tgt := 37) (by decide)) rfl (fun c => ?_) (fun c => ?_)
    · obtain rfl := z_is_le (by omega) hk c
      refine kX6_walkTo_37 ?_
      refine zb_go (zg_iload_n rfl) rfl ?_
      refine zb_end (zg_ireturn rfl (by rfl) ?_) rfl
      exact hQ
    · have hk4 := z_not_le (by omega) hk c
      refine zb_go (zg_iload_n rfl) rfl ?_
      refine zb_go (zg_iconst 2 (by decide)) rfl ?_
      refine zb_go (zg_aload_n rfl) rfl ?_
      refine zb_go (zg_iload_n rfl) rfl ?_
      refine zb_callv (r_X6_timesOf hM okp) lX6_147 (by repeat (first | assumption | exact z_up_self _ _ _ | refine (z_up_ne (by first | decide | omega)).trans ?_)) rfl rfl (by first | decide | assumption | omega) (by first | decide | omega) rfl (Nat.le_of_ble_eq_true rfl) rfl ?_
      refine zb_go zg_imul rfl ?_
      refine zb_go (zg_aload_n rfl) rfl ?_
      refine zb_go (zg_iload_n rfl) rfl ?_
      refine zb_go (zg_iload_n rfl) rfl ?_
      refine zb_callv (r_X6_wayOf hM okp hk4 hw) lX6_150 (by repeat (first | assumption | exact z_up_self _ _ _ | refine (z_up_ne (by first | decide | omega)).trans ?_)) rfl rfl (by first | decide | assumption | omega) (by first | decide | omega) rfl (Nat.le_of_ble_eq_true rfl) rfl ?_
      refine zb_go zg_imul rfl ?_
      refine zb_go zg_iadd rfl ?_
      refine zb_go (zg_istore_n (by decide)) rfl ?_
      refine zb_go (zg_iinc 1 (by decide) rfl (by decide)) rfl ?_
      refine zb_end (zg_goto (tgt := 4) (by decide) ?_) rfl
      have e : mWk P f w (k + 1) = mWk P f w k + 2 * mTm f (nI k) 4 * zdist (pHo P k) w := rfl
      rw [show (2 : Int32) = nI 2 from rfl, pk_mul, pk_mul, nI_add, nI_1, ← e]
      exact ih hk4
  refine kX6_walkTo_0 ?_
  refine zb_go (zg_iconst 0 (by decide)) rfl ?_
  refine zb_go (zg_istore_n (by decide)) rfl ?_
  refine zb_go (zg_iconst 0 (by decide)) rfl ?_
  refine zb_go (zg_istore_n (by decide)) rfl ?_
  refine zb_out ?_
  exact lp 0 (by omega)
theorem r_X6_allWanted (hM : mCore h P f) (okp : okP P) : zRet K l 0 mX6_allWanted [.ref 34] 59 h (some (.int (nI (pAll P)))) h := by
  refine zRet.of (by decide) (Nat.le_of_ble_eq_true rfl) (fun Q hQ => ?_)
  obtain ⟨⟨tr, ty, ⟨at_, st, so, va, fa, to, mo, wa, fe, ev⟩, h1⟩, hP, h46⟩ := id hM
  have h1 : h 34 = .inr _ := h1
  obtain ⟨⟨f1, a1, b1⟩, ⟨f2, a2, b2⟩, ⟨f3, a3, b3⟩, ⟨f4, a4, b4⟩, ⟨f5, a5, b5⟩, ⟨f6, a6, b6⟩, ⟨f7, a7, b7⟩, ⟨f8, a8⟩, ⟨f9, a9, b9⟩, ⟨f10, a10, b10⟩⟩ := id hP
  have kH := okp.1
  have kR := okp.2.1
  have lp : ∀ k, k ≤ pH P → zGo K l 0 mX6_allWanted 4 [(0, .ref 34), (1, .int (nI (zsum (pW P) k))), (2, .int (nI k))] [] 59 h 0 0 Q := by
    refine z_down (pH P) (fun k hk ih => ?_)
    refine kX6_allWanted_4 ?_
    refine zb_go (zg_iload_n rfl) rfl ?_
    refine zb_go (zg_aload_n rfl) rfl ?_
    refine zb_go (zg_getfield fX6_13 (by first | decide | assumption | omega) (by repeat (first | assumption | exact z_up_self _ _ _ | refine (z_up_ne (by first | decide | omega)).trans ?_)) (by rfl)) rfl ?_
    refine zb_go (zg_iconst 0 (by decide)) rfl ?_
    refine zb_go (zi_iaload (by first | decide | assumption | omega) (by repeat (first | assumption | exact z_up_self _ _ _ | refine (z_up_ne (by first | decide | omega)).trans ?_)) (by first | assumption | exact zIx.nI (by omega) (by decide) | exact ⟨by decide, by decide⟩ | exact zIx.nI (k := 0) (by decide) (by decide) | exact zIx.nI (k := 1) (by decide) (by decide) | exact zIx.nI (k := 2) (by decide) (by decide) | exact zIx.nI (k := 3) (by decide) (by decide))) rfl ?_
    rw [b1]
    refine zb_br (zg_icmp_ge (tgt := 29) (by decide)) rfl (fun c => ?_) (fun c => ?_)
    · obtain rfl := z_is_le (by omega) hk c
      refine kX6_allWanted_29 ?_
      refine zb_go (zg_iload_n rfl) rfl ?_
      refine zb_end (zg_ireturn rfl (by rfl) ?_) rfl
      exact hQ
    · have hk4 := z_not_le (by omega) hk c
      refine zb_go (zg_iload_n rfl) rfl ?_
      refine zb_go (zg_aload_n rfl) rfl ?_
      refine zb_go (zg_getfield fX6_17 (by first | decide | assumption | omega) (by repeat (first | assumption | exact z_up_self _ _ _ | refine (z_up_ne (by first | decide | omega)).trans ?_)) (by rfl)) rfl ?_
      refine zb_go (zg_iload_n rfl) rfl ?_
      refine zb_go (zi_iaload (by first | decide | assumption | omega) (by repeat (first | assumption | exact z_up_self _ _ _ | refine (z_up_ne (by first | decide | omega)).trans ?_)) (by first | assumption | exact zIx.nI (by omega) (by decide) | exact ⟨by decide, by decide⟩ | exact zIx.nI (k := 0) (by decide) (by decide) | exact zIx.nI (k := 1) (by decide) (by decide) | exact zIx.nI (k := 2) (by decide) (by decide) | exact zIx.nI (k := 3) (by decide) (by decide))) rfl ?_
      refine zb_go zg_iadd rfl ?_
      refine zb_go (zg_istore_n (by decide)) rfl ?_
      refine zb_go (zg_iinc 1 (by decide) rfl (by decide)) rfl ?_
      refine zb_end (zg_goto (tgt := 4) (by decide) ?_) rfl
      have e : zsum (pW P) (k + 1) = zsum (pW P) k + pW P k := rfl
      rw [b2 k hk4, nI_add, nI_1, ← e]
      exact ih hk4
  refine kX6_allWanted_0 ?_
  refine zb_go (zg_iconst 0 (by decide)) rfl ?_
  refine zb_go (zg_istore_n (by decide)) rfl ?_
  refine zb_go (zg_iconst 0 (by decide)) rfl ?_
  refine zb_go (zg_istore_n (by decide)) rfl ?_
  refine zb_out ?_
  exact lp 0 (by omega)
theorem r_X6_isBusy (hM : mCore h P f) (okp : okP P) (hr : r < pR P) (hg : g < 4) : zRet K l 0 mX6_isBusy [.ref 34, .int (nI r), .int (nI g)] 59 h (some (.int (if (pBu P r).testBit g then 1 else 0))) h := by
  refine zRet.of (by decide) (Nat.le_of_ble_eq_true rfl) (fun Q hQ => ?_)
  obtain ⟨⟨tr, ty, ⟨at_, st, so, va, fa, to, mo, wa, fe, ev⟩, h1⟩, hP, h46⟩ := id hM
  have h1 : h 34 = .inr _ := h1
  obtain ⟨⟨f1, a1, b1⟩, ⟨f2, a2, b2⟩, ⟨f3, a3, b3⟩, ⟨f4, a4, b4⟩, ⟨f5, a5, b5⟩, ⟨f6, a6, b6⟩, ⟨f7, a7, b7⟩, ⟨f8, a8⟩, ⟨f9, a9, b9⟩, ⟨f10, a10, b10⟩⟩ := id hP
  have kH := okp.1
  have kR := okp.2.1
  have hh := (okp.2.2.2.2.2.2 r hr).2.2.1
  have i12 : zIx (nI r) 12 r := zIx.nI (by omega) (by decide)
  refine kX6_isBusy_0 ?_
  refine zb_go (zg_aload_n rfl) rfl ?_
  refine zb_go (zg_getfield fX6_29 (by first | decide | assumption | omega) (by repeat (first | assumption | exact z_up_self _ _ _ | refine (z_up_ne (by first | decide | omega)).trans ?_)) (by rfl)) rfl ?_
  refine zb_go (zg_iload_n rfl) rfl ?_
  refine zb_go (zi_iaload (by first | decide | assumption | omega) (by repeat (first | assumption | exact z_up_self _ _ _ | refine (z_up_ne (by first | decide | omega)).trans ?_)) i12) rfl ?_
  refine zb_go (zg_iload_n rfl) rfl ?_
  refine zb_go zg_ishr rfl ?_
  refine zb_go (zg_iconst 1 (by decide)) rfl ?_
  refine zb_go zg_iand rfl ?_
  refine zb_go (zg_iconst 1 (by decide)) rfl ?_
  refine zb_br (zg_icmp_ne (tgt := 18) (by decide)) rfl (fun c => ?_) (fun c => ?_)
  · rw [b6 r hr, z_bit (by omega) (by omega)] at c
    rw [if_neg (fun z => by rw [if_pos z] at c; exact c rfl)] at hQ
    refine kX6_isBusy_18 ?_
    refine zb_go (zg_iconst 0 (by decide)) rfl ?_
    refine zb_out ?_
    refine kX6_isBusy_19 ?_
    refine zb_end (zg_ireturn rfl (by rfl) ?_) rfl
    exact hQ
  · rw [b6 r hr, z_bit (by omega) (by omega)] at c
    rw [if_pos (by
      rcases Bool.eq_false_or_eq_true ((pBu P r).testBit g) with z | z
      · exact z
      · rw [if_neg (by rw [z]; decide)] at c; exact absurd c (by decide))] at hQ
    refine zb_go (zg_iconst 1 (by decide)) rfl ?_
    refine zb_end (zg_goto (tgt := 19) (by decide) ?_) rfl
    refine kX6_isBusy_19 ?_
    refine zb_end (zg_ireturn rfl (by rfl) ?_) rfl
    exact hQ
theorem r_X6_trace (hM : mRel h G) (ok : okS G) : zRet K l 0 mX6_trace [.ref 34] 59 h (some (.long (gTr G))) h := by
  refine zRet.of (by decide) (Nat.le_of_ble_eq_true rfl) (fun Q hQ => ?_)
  obtain ⟨⟨at_, st, so, va, fa, to, mo, wa, fe, ev⟩, f, kf, h1, ⟨tx, hx, htx⟩, hP, h46, hN, h47, hkf, hI, hRm⟩ := id hM
  have hc : mCore h (gP G) f := ⟨⟨_, _, _, h1⟩, hP, h46⟩
  have h1 : h 34 = .inr _ := h1
  obtain ⟨⟨f1, a1, b1⟩, ⟨f2, a2, b2⟩, ⟨f3, a3, b3⟩, ⟨f4, a4, b4⟩, ⟨f5, a5, b5⟩, ⟨f6, a6, b6⟩, ⟨f7, a7, b7⟩, ⟨f8, a8⟩, ⟨f9, a9, b9⟩, ⟨f10, a10, b10⟩⟩ := id hP
  have okp := ok.1
  have okt := ok.2.1
  have kH := okp.1
  have kR := okp.2.1
  refine kX6_trace_0 ?_
  refine zb_go (zg_aload_n rfl) rfl ?_
  refine zb_go (zg_getfield fX6_234 (by first | decide | assumption | omega) (by repeat (first | assumption | exact z_up_self _ _ _ | refine (z_up_ne (by first | decide | omega)).trans ?_)) (by rfl)) rfl ?_
  refine zb_end (zg_lreturn rfl ?_) rfl
  exact hQ
end
