/-! PARISH: hours, ringers, tower, times, rest; wants, homes, bells, busy, ills -/
abbrev zP : Type := Nat × Nat × Nat × Nat × Nat × (Nat → Nat) × (Nat → Nat) × (Nat → Nat) × (Nat → Nat) × (Nat → Nat)
def pH (P : zP) : Nat := P.1
def pR (P : zP) : Nat := P.2.1
def pTw (P : zP) : Nat := P.2.2.1
def pTi (P : zP) : Nat := P.2.2.2.1
def pRe (P : zP) : Nat := P.2.2.2.2.1
def pW (P : zP) : Nat → Nat := P.2.2.2.2.2.1
def pHo (P : zP) : Nat → Nat := P.2.2.2.2.2.2.1
def pBe (P : zP) : Nat → Nat := P.2.2.2.2.2.2.2.1
def pBu (P : zP) : Nat → Nat := P.2.2.2.2.2.2.2.2.1
def pIl (P : zP) : Nat → Nat := P.2.2.2.2.2.2.2.2.2
/-- as the document bounds them -/
def okP (P : zP) : Prop := pH P ≤ 4 ∧ pR P ≤ 6 ∧ pTw P ≤ 60 ∧ (1 ≤ pTi P ∧ pTi P ≤ 4) ∧ pRe P ≤ 3 ∧ (∀ i, i < pH P → 1 ≤ pW P i ∧ pW P i ≤ 3) ∧ ∀ i, i < pR P → pHo P i ≤ 60 ∧ pBe P i ≤ 7 ∧ pBu P i ≤ 15 ∧ pIl P i ≤ 9
def isPar (h : zH) (p : Nat) (P : zP) : Prop :=
  h p = .inr (1, [.int (nI (pH P)), .int (nI (pR P)), .int (nI (pTw P)), .int (nI (pTi P)), .int (nI (pRe P)), .ref (p + 1), .ref (p + 2), .ref (p + 3), .ref (p + 4), .ref (p + 5)]) ∧
  (∃ f, h (p + 1) = .inl (0, 4, .inl f) ∧ ∀ i, i < pH P → f i = nI (pW P i)) ∧ (∃ f, h (p + 2) = .inl (0, 6, .inl f) ∧ ∀ i, i < pR P → f i = nI (pHo P i)) ∧ (∃ f, h (p + 3) = .inl (0, 6, .inl f) ∧ ∀ i, i < pR P → f i = nI (pBe P i)) ∧
  (∃ f, h (p + 4) = .inl (0, 6, .inl f) ∧ ∀ i, i < pR P → f i = nI (pBu P i)) ∧ (∃ f, h (p + 5) = .inl (0, 6, .inl f) ∧ ∀ i, i < pR P → f i = nI (pIl P i))
section
variable {K : zK} {l : Launch} {n p r g b : Nat} {h : zH} {P : zP} {x y z : Int32}
theorem r_X2_hasHour (hP : isPar h p P) (hp : p + 5 < n) : zRet K l 0 mX2_hasHour [.ref p, .int x] n h (some (.int (if 0 ≤ x ∧ x < nI (pH P) then 1 else 0))) h := by
  refine zRet.of (by decide) (Nat.le_of_ble_eq_true rfl) (fun Q hQ => ?_)
  have h1 := hP.1
  refine kX2_hasHour_0 ?_
  refine zb_go (zg_iload_n rfl) rfl ?_
  refine zb_br (zg_if_lt (tgt := 16) (by decide)) rfl (fun c0 => ?_) (fun c0 => ?_)
  · rw [if_neg (fun q => Int32.not_le.mpr c0 q.1)] at hQ
    refine kX2_hasHour_16 ?_
    refine zb_go (zg_iconst 0 (by decide)) rfl ?_
    refine zb_out ?_
    refine kX2_hasHour_17 ?_
    refine zb_end (zg_ireturn rfl (by rfl) ?_) rfl
    exact hQ
  · refine zb_go (zg_iload_n rfl) rfl ?_
    refine zb_go (zg_aload_n rfl) rfl ?_
    refine zb_go (zg_getfield fX2_9 (by first | assumption | decide | omega) (by first | assumption | exact z_up_self _ _ _ | exact (z_up_ne (by first | decide | omega)).trans (by assumption) | exact (z_up_ne (by first | decide | omega)).trans (z_up_self _ _ _) | exact (z_up_ne (by first | decide | omega)).trans ((z_up_ne (by first | decide | omega)).trans (by assumption)) | exact (z_up_ne (by first | decide | omega)).trans ((z_up_ne (by first | decide | omega)).trans (z_up_self _ _ _))) (by rfl)) rfl ?_
    refine zb_br (zg_icmp_ge (tgt := 16) (by decide)) rfl (fun c => ?_) (fun c => ?_)
    · rw [if_neg (fun q => Int32.not_le.mpr q.2 c)] at hQ
      refine kX2_hasHour_16 ?_
      refine zb_go (zg_iconst 0 (by decide)) rfl ?_
      refine zb_out ?_
      refine kX2_hasHour_17 ?_
      refine zb_end (zg_ireturn rfl (by rfl) ?_) rfl
      exact hQ
    · rw [if_pos ⟨Int32.not_lt.mp c0, Int32.not_le.mp c⟩] at hQ
      refine zb_go (zg_iconst 1 (by decide)) rfl ?_
      refine zb_end (zg_goto (tgt := 17) (by decide) ?_) rfl
      refine kX2_hasHour_17 ?_
      refine zb_end (zg_ireturn rfl (by rfl) ?_) rfl
      exact hQ
end
