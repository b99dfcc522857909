/-! THE MODEL (16): due, number -/
theorem kAt_le {f : Nat → Int32} {len i : Nat} (h : i ≤ len) : kAt f len i ≤ len := by
  have h1 := pSk_le (f := f) h
  unfold kAt
  split
  · exact h1
  · split
    · exact pLt_le h1
    · split
      · exact pDg_le h1
      · omega
theorem pDg_no {f : Nat → Int32} {len s : Nat} (h : p09 f s = false) : pDg f len s = s := by
  show (if s < len ∧ p09 f s = true then _ else s) = s
  rw [if_neg (by rw [h]; simp)]
theorem pDg_yes {f : Nat → Int32} {len s : Nat} (hs : s < len) (h : p09 f s = true) : s < pDg f len s := by
  show s < (if s < len ∧ p09 f s = true then pRun (p09 f) len 199 (s + 1) else s)
  rw [if_pos ⟨hs, h⟩]
  exact pRun_ge _ _ _ _
theorem pLt_no {f : Nat → Int32} {len s : Nat} (h : pAz f s = false) : pLt f len s = s := by
  show (if s < len ∧ pAz f s = true then _ else s) = s
  rw [if_neg (by rw [h]; simp)]
theorem pKind_no {f : Nat → Int32} {len s : Nat} (h : pAz f s = false) : pKind f len s = none := by
  unfold pKind
  refine zfst_none (fun k hk => ?_)
  have : ∀ k, k < 5 → z_len.getD k 0 ≠ 0 := by decide +kernel
  rw [pLt_no h, Nat.sub_self, decide_eq_false (this k hk), Bool.false_and]
theorem az_not09 {f : Nat → Int32} {s : Nat} (h : pAz f s = true) (hb : isByte (f s)) : p09 f s = false := by
  have h1 := (pAz_zu hb).mp h
  rcases Bool.eq_false_or_eq_true (p09 f s) with w | w
  · have := (p09_zu hb).mp w
    omega
  · exact w
theorem kSo_az {f : Nat → Int32} {len i : Nat} (hs : ¬ len ≤ pSk f len i) (h : pAz f (pSk f len i) = true) : kSo f len i = (pKind f len (pSk f len i)).getD 8 := by
  unfold kSo
  rw [if_neg hs, if_pos h]
/-- a number that may stand, either way -/
theorem pNum_k {f : Nat → Int32} {len i lo hi : Nat} (hi2 : i ≤ len) (hhi : hi ≤ 99) (hby : ∀ j, j < len → isByte (f j)) : ((kSo f len i = 6 ∧ lo ≤ kVa f len i ∧ kVa f len i ≤ hi) → pNum f len lo hi i = .inr (kVa f len i, kAt f len i)) ∧ (¬ (kSo f len i = 6 ∧ lo ≤ kVa f len i ∧ kVa f len i ≤ hi) → pNum f len lo hi i = .inl (pSk f len i)) := by
  have hs1 := pSk_le (f := f) hi2
  unfold pNum kSo kVa kAt
  obtain ⟨s, es⟩ : ∃ s, pSk f len i = s := ⟨_, rfl⟩
  rw [es] at hs1 ⊢
  by_cases hsl : len ≤ s
  · simp only [if_pos hsl]
    refine ⟨fun q => by omega, fun _ => ?_⟩
    rw [show s = len by omega]
  · simp only [if_neg hsl]
    have hsl : s < len := by omega
    have hb := hby s hsl
    by_cases az : pAz f s = true
    · simp only [if_pos az]
      have n9 := az_not09 az hb
      have e := pDg_no (len := len) n9
      refine ⟨fun q => ?_, fun _ => by rw [if_pos (Or.inl e)]⟩
      exfalso
      have := q.1
      cases ek : pKind f len s with
      | none => rw [ek] at this; exact absurd this (by decide)
      | some k =>
        rw [ek] at this
        have h5 := pKind_lt ek
        have this : k = 6 := this
        omega
    · simp only [if_neg az]
      by_cases dg : p09 f s = true
      · simp only [if_pos dg]
        have hgt := pDg_yes hsl dg
        have hall := pRun_all (p09 f) len 200 s
        change ∀ k, s ≤ k → k < pDg f len s → k < len ∧ p09 f k = true at hall
        obtain ⟨m, em⟩ : ∃ m, pDg f len s = s + m := ⟨pDg f len s - s, by omega⟩
        rw [em] at hgt hall ⊢
        rw [show s + m - s = m by omega]
        have hv := mVal_p (f := f) (s := s) (n := m) (fun j hj => hby _ (hall (s + j) (by omega) (by omega)).1) (fun j hj => (p09_zu (hby _ (hall (s + j) (by omega) (by omega)).1)).mp (hall (s + j) (by omega) (by omega)).2) m (Nat.le_refl _)
        rw [← hv]
        by_cases big : 99 < mVal f s m
        · rw [if_pos (Or.inl big)]
          refine ⟨fun q => absurd q.1 (by decide), fun _ => ?_⟩
          rw [if_pos (Or.inr (Or.inr (Or.inr (by omega))))]
        · by_cases zero : f s = 48 ∧ 1 < m
          · rw [if_pos (Or.inr zero)]
            refine ⟨fun q => absurd q.1 (by decide), fun _ => ?_⟩
            rw [if_pos (Or.inr (Or.inl ⟨zero.2, zero.1⟩))]
          · rw [if_neg (by intro q; rcases q with q | q; exact big q; exact zero q)]
            have emin : min (mVal f s m) 100 = mVal f s m := by omega
            rw [emin]
            constructor
            · rintro ⟨-, q1, q2⟩
              rw [if_neg]
              intro q
              rcases q with q | q | q | q
              · omega
              · exact zero ⟨q.2, q.1⟩
              · omega
              · omega
            · intro q
              rw [if_pos]
              by_cases w : mVal f s m < lo
              · exact Or.inr (Or.inr (Or.inl w))
              · refine Or.inr (Or.inr (Or.inr ?_))
                rcases Nat.lt_or_ge hi (mVal f s m) with u | u
                · exact u
                · exact absurd ⟨rfl, by omega, u⟩ q
      · simp only [if_neg dg]
        have n9 : p09 f s = false := by
          rcases Bool.eq_false_or_eq_true (p09 f s) with w | w
          · exact absurd w dg
          · exact w
        have e := pDg_no (len := len) n9
        refine ⟨fun q => ?_, fun _ => by rw [if_pos (Or.inl e)]⟩
        exfalso
        have := q.1
        split at this <;> exact absurd this (by decide)
theorem pEnd_k {f : Nat → Int32} {len i : Nat} (hi2 : i ≤ len) (hby : ∀ j, j < len → isByte (f j)) : (kSo f len i = 7 → pEnd f len i = .inr (kAt f len i)) ∧ (¬ kSo f len i = 7 → pEnd f len i = .inl (pSk f len i)) := by
  have hs1 := pSk_le (f := f) hi2
  unfold pEnd kSo kAt
  obtain ⟨s, es⟩ : ∃ s, pSk f len i = s := ⟨_, rfl⟩
  rw [es] at hs1 ⊢
  by_cases hsl : len ≤ s
  · simp only [if_pos hsl]
    refine ⟨fun q => by omega, fun _ => ?_⟩
    rw [show s = len by omega]
  · simp only [if_neg hsl]
    have hsl : s < len := by omega
    have hb := hby s hsl
    have h59 := zu_eq (k := 59) hb (by decide)
    have h59 : f s = 59 ↔ zu (f s) = 59 := h59
    by_cases az : pAz f s = true
    · simp only [if_pos az]
      have h1 := (pAz_zu hb).mp az
      refine ⟨fun q => ?_, fun _ => by rw [if_neg (fun w => by have := h59.mp w; omega)]⟩
      exfalso
      cases ek : pKind f len s with
      | none => rw [ek] at q; exact absurd q (by decide)
      | some k =>
        rw [ek] at q
        have h5 := pKind_lt ek
        have q : k = 7 := q
        omega
    · simp only [if_neg az]
      by_cases dg : p09 f s = true
      · simp only [if_pos dg]
        have h1 := (p09_zu hb).mp dg
        refine ⟨fun q => ?_, fun _ => by rw [if_neg (fun w => by have := h59.mp w; omega)]⟩
        exfalso
        split at q <;> exact absurd q (by decide)
      · simp only [if_neg dg]
        by_cases w : f s = 59
        · simp only [if_pos w]
          exact ⟨fun _ => trivial, fun q => absurd trivial q⟩
        · simp only [if_neg w]
          exact ⟨fun q => absurd q (by decide), fun _ => trivial⟩
/-- the token behind a place -/
def kX (f : Nat → Int32) (len e : Nat) (fa to mo wa fe ev : Int32) : zX := (nI (kAt f len e), nI (pSk f len e), nI (kSo f len e), nI (kVa f len e), fa, to, mo, wa, fe, ev)
theorem kVa_le {f : Nat → Int32} {len i : Nat} (hi2 : i ≤ len) (hby : ∀ j, j < len → isByte (f j)) : kVa f len i ≤ 999 := by
  have hs1 := pSk_le (f := f) hi2
  unfold kVa
  split
  · exact Nat.zero_le _
  · next hsl =>
    split
    · exact Nat.zero_le _
    · split
      · next dg =>
        have hall := pRun_all (p09 f) len 200 (pSk f len i)
        change ∀ k, pSk f len i ≤ k → k < pDg f len (pSk f len i) → k < len ∧ p09 f k = true at hall
        exact mVal_le (n := pDg f len (pSk f len i) - pSk f len i) (fun j hj => (p09_zu (hby _ (hall (pSk f len i + j) (by omega) (by omega)).1)).mp (hall (pSk f len i + j) (by omega) (by omega)).2) _ (Nat.le_refl _)
      · exact Nat.zero_le _
theorem kSo_le {f : Nat → Int32} {len i : Nat} : kSo f len i ≤ 8 := by
  unfold kSo
  split
  · decide
  · split
    · cases ek : pKind f len (pSk f len i) with
      | none => exact Nat.le_refl _
      | some k =>
        have h5 := pKind_lt ek
        show k ≤ 8
        omega
    · split
      · split <;> decide
      · split <;> decide
section
variable {K : zK} {l : Launch} {n p q r g0 k s i len e lo hi : Nat} {h h1 g H : zH} {x y z : Int32} {G : zS} {P : zP} {f tx : Nat → Int32} {T : zT} {tr : Int64} {ty : Int32} {X : zX} {at_ st so va fa to mo wa fe ev : Int32}
theorem r_X6_dueBad (h34 : H 34 = mObj tr ty (at_, st, so, va, fa, to, mo, wa, fe, ev)) (hfa : fa ≠ -9) : zRet K l 2 mX6_due [.ref 34, .int x] 59 H (some (.int va)) H := by
  refine zRet.of (by decide) (Nat.le_of_ble_eq_true rfl) (fun Q hQ => ?_)
  have h1 : H 34 = .inr _ := h34
  refine kX6_due_0 ?_
  refine zb_go (zg_aload_n rfl) rfl ?_
  refine zb_go (zg_getfield fX6_107 (by first | decide | assumption | omega) (by repeat (first | assumption | exact z_up_self _ _ _ | refine (z_up_ne (by first | decide | omega)).trans ?_)) (by rfl)) rfl ?_
  refine zb_go (zg_istore_n (by decide)) rfl ?_
  refine zb_go (zg_aload_n rfl) rfl ?_
  refine zb_go (zg_getfield fX6_117 (by first | decide | assumption | omega) (by repeat (first | assumption | exact z_up_self _ _ _ | refine (z_up_ne (by first | decide | omega)).trans ?_)) (by rfl)) rfl ?_
  refine zb_go (zg_bipush (-9) (by decide)) rfl ?_
  refine zb_br (zg_icmp_ne (tgt := 33) (by decide)) rfl (fun c0 => ?_) (fun c0 => ?_)
  · refine kX6_due_33 ?_
    refine zb_go (zg_iload_n rfl) rfl ?_
    refine zb_end (zg_ireturn rfl (by rfl) ?_) rfl
    exact hQ
  · exact absurd c0 hfa
theorem r_X6_dueT (h34 : H 34 = mObj tr (nI len) (nI i, st, so, va, -9, to, mo, wa, fe, ev)) (h35 : H 35 = .inl (1, 200, .inl tx)) (htx : ∀ j, j < len → tx j = f j ∧ isByte (f j)) (hl : len ≤ 200) (hi : i ≤ len) : zRex K l 2 mX6_due [.ref 34, .int 1] 59 H (fun v h' => v = some (.int va) ∧ h' = z_up H 34 (mObj tr (nI len) (kX f len i (-9) to mo wa fe ev))) := by
  refine zRex.of (by decide) (Nat.le_of_ble_eq_true rfl) (fun Q hQ => ?_)
  have h1 : H 34 = .inr _ := h34
  refine kX6_due_0 ?_
  refine zb_go (zg_aload_n rfl) rfl ?_
  refine zb_go (zg_getfield fX6_107 (by first | decide | assumption | omega) (by repeat (first | assumption | exact z_up_self _ _ _ | refine (z_up_ne (by first | decide | omega)).trans ?_)) (by rfl)) rfl ?_
  refine zb_go (zg_istore_n (by decide)) rfl ?_
  refine zb_go (zg_aload_n rfl) rfl ?_
  refine zb_go (zg_getfield fX6_117 (by first | decide | assumption | omega) (by repeat (first | assumption | exact z_up_self _ _ _ | refine (z_up_ne (by first | decide | omega)).trans ?_)) (by rfl)) rfl ?_
  refine zb_go (zg_bipush (-9) (by decide)) rfl ?_
  refine zb_br (zg_icmp_ne (tgt := 33) (by decide)) rfl (fun c0 => ?_) (fun c0 => ?_)
  · exact absurd rfl c0
  · refine zb_go (zg_iload_n rfl) rfl ?_
    refine zb_br (zg_if_eq (tgt := 25) (by decide)) rfl (fun c1 => ?_) (fun c1 => ?_)
    · exact absurd c1 (by decide)
    · refine zb_go (zg_aload_n rfl) rfl ?_
      refine zb_callvx (r_X6_next h34 h35 htx hl hi) lX6_120 (by repeat (first | assumption | exact z_up_self _ _ _ | refine (z_up_ne (by first | decide | omega)).trans ?_)) rfl rfl (by first | decide | assumption | omega) (by first | decide | omega) rfl (Nat.le_of_ble_eq_true rfl) rfl ?_
      rintro v h' ⟨rfl, rfl⟩
      refine zb_end (zg_goto (tgt := 33) (by decide) ?_) rfl
      refine kX6_due_33 ?_
      refine zb_go (zg_iload_n rfl) rfl ?_
      refine zb_end (zg_ireturn rfl (by rfl) ?_) rfl
      exact hQ _ _ ⟨rfl, rfl⟩
theorem r_X6_dueF (h34 : H 34 = mObj tr ty (at_, st, so, va, -9, to, mo, wa, fe, ev)) : zRex K l 2 mX6_due [.ref 34, .int 0] 59 H (fun v h' => v = some (.int va) ∧ h' = z_up H 34 (mObj tr ty (at_, st, so, va, st, to, mo, wa, fe, ev))) := by
  refine zRex.of (by decide) (Nat.le_of_ble_eq_true rfl) (fun Q hQ => ?_)
  have h1 : H 34 = .inr _ := h34
  refine kX6_due_0 ?_
  refine zb_go (zg_aload_n rfl) rfl ?_
  refine zb_go (zg_getfield fX6_107 (by first | decide | assumption | omega) (by repeat (first | assumption | exact z_up_self _ _ _ | refine (z_up_ne (by first | decide | omega)).trans ?_)) (by rfl)) rfl ?_
  refine zb_go (zg_istore_n (by decide)) rfl ?_
  refine zb_go (zg_aload_n rfl) rfl ?_
  refine zb_go (zg_getfield fX6_117 (by first | decide | assumption | omega) (by repeat (first | assumption | exact z_up_self _ _ _ | refine (z_up_ne (by first | decide | omega)).trans ?_)) (by rfl)) rfl ?_
  refine zb_go (zg_bipush (-9) (by decide)) rfl ?_
  refine zb_br (zg_icmp_ne (tgt := 33) (by decide)) rfl (fun c0 => ?_) (fun c0 => ?_)
  · exact absurd rfl c0
  · refine zb_go (zg_iload_n rfl) rfl ?_
    refine zb_br (zg_if_eq (tgt := 25) (by decide)) rfl (fun c1 => ?_) (fun c1 => ?_)
    · refine kX6_due_25 ?_
      refine zb_go (zg_aload_n rfl) rfl ?_
      refine zb_go (zg_aload_n rfl) rfl ?_
      refine zb_go (zg_getfield fX6_104 (by first | decide | assumption | omega) (by repeat (first | assumption | exact z_up_self _ _ _ | refine (z_up_ne (by first | decide | omega)).trans ?_)) (by rfl)) rfl ?_
      refine zb_go (zg_putfield fX6_117 (by first | decide | assumption | omega) (by repeat (first | assumption | exact z_up_self _ _ _ | refine (z_up_ne (by first | decide | omega)).trans ?_)) (by exact Nat.le_of_ble_eq_true rfl) (by rfl) (by rfl) (by first | exact Or.inl rfl | exact Or.inr ⟨rfl, rfl⟩)) rfl ?_
      refine zb_out ?_
      refine kX6_due_33 ?_
      refine zb_go (zg_iload_n rfl) rfl ?_
      refine zb_end (zg_ireturn rfl (by rfl) ?_) rfl
      exact hQ _ _ ⟨rfl, rfl⟩
    · exact absurd rfl c1
theorem r_X6_numberBad (h34 : H 34 = mObj tr ty (at_, st, so, va, fa, to, mo, wa, fe, ev)) (hfa : fa ≠ -9) : zRet K l 3 mX6_number [.ref 34, .int x, .int y] 59 H (some (.int va)) H := by
  refine zRet.of (by decide) (Nat.le_of_ble_eq_true rfl) (fun Q hQ => ?_)
  have h1 : H 34 = .inr _ := h34
  have fin : ∀ b : Int32, zGo K l 3 mX6_number 27 (lv_args 0 [.ref 34, .int x, .int y]) [.int b, .ref 34] 59 H 0 0 Q := by
    intro b
    refine kX6_number_27 ?_
    refine zb_callv (r_X6_dueBad h34 hfa) lX6_123 (by repeat (first | assumption | exact z_up_self _ _ _ | refine (z_up_ne (by first | decide | omega)).trans ?_)) rfl rfl (by first | decide | assumption | omega) (by first | decide | omega) rfl (Nat.le_of_ble_eq_true rfl) rfl ?_
    refine zb_end (zg_ireturn rfl (by rfl) ?_) rfl
    exact hQ
  refine kX6_number_0 ?_
  refine zb_go (zg_aload_n rfl) rfl ?_
  refine zb_go (zg_aload_n rfl) rfl ?_
  refine zb_go (zg_getfield fX6_110 (by first | decide | assumption | omega) (by repeat (first | assumption | exact z_up_self _ _ _ | refine (z_up_ne (by first | decide | omega)).trans ?_)) (by rfl)) rfl ?_
  refine zb_go (zg_bipush 6 (by decide)) rfl ?_
  refine zb_br (zg_icmp_ne (tgt := 26) (by decide)) rfl (fun c0 => ?_) (fun c0 => ?_)
  · refine kX6_number_26 ?_
    refine zb_go (zg_iconst 0 (by decide)) rfl ?_
    refine zb_out ?_
    exact fin _
  · refine zb_go (zg_aload_n rfl) rfl ?_
    refine zb_go (zg_getfield fX6_107 (by first | decide | assumption | omega) (by repeat (first | assumption | exact z_up_self _ _ _ | refine (z_up_ne (by first | decide | omega)).trans ?_)) (by rfl)) rfl ?_
    refine zb_go (zg_iload_n rfl) rfl ?_
    refine zb_go (zg_iload_n rfl) rfl ?_
    refine zb_calls (r_X6_in) lX6_87 rfl (by first | decide | omega) rfl (Nat.le_of_ble_eq_true rfl) rfl ?_
    refine zb_br (zg_if_eq (tgt := 26) (by decide)) rfl (fun c1 => ?_) (fun c1 => ?_)
    · refine kX6_number_26 ?_
      refine zb_go (zg_iconst 0 (by decide)) rfl ?_
      refine zb_out ?_
      exact fin _
    · refine zb_go (zg_iconst 1 (by decide)) rfl ?_
      refine zb_end (zg_goto (tgt := 27) (by decide) ?_) rfl
      exact fin _
theorem r_X6_number (h34 : H 34 = mObj tr (nI len) (kX f len e (-9) to mo wa fe ev)) (h35 : H 35 = .inl (1, 200, .inl tx)) (htx : ∀ j, j < len → tx j = f j ∧ isByte (f j)) (hl : len ≤ 200) (he : e ≤ len) (hhi : hi ≤ 99) (hlo : lo ≤ 99) : zRex K l 3 mX6_number [.ref 34, .int (nI lo), .int (nI hi)] 59 H (fun v h' => v = some (.int (nI (kVa f len e))) ∧ ((pNum f len lo hi e = .inr (kVa f len e, kAt f len e) ∧ h' = z_up H 34 (mObj tr (nI len) (kX f len (kAt f len e) (-9) to mo wa fe ev))) ∨ (pNum f len lo hi e = .inl (pSk f len e) ∧ h' = z_up H 34 (mObj tr (nI len) (kX f len e (nI (pSk f len e)) to mo wa fe ev))))) := by
  refine zRex.of (by decide) (Nat.le_of_ble_eq_true rfl) (fun Q hQ => ?_)
  have h1 : H 34 = .inr _ := h34
  obtain ⟨k1, k2⟩ := pNum_k (f := f) (lo := lo) he hhi (fun j hj => (htx j hj).2)
  have kv := kVa_le (f := f) he (fun j hj => (htx j hj).2)
  have ks := kSo_le (f := f) (len := len) (i := e)
  have bad : ¬ (kSo f len e = 6 ∧ lo ≤ kVa f len e ∧ kVa f len e ≤ hi) → zGo K l 3 mX6_number 26 (lv_args 0 [.ref 34, .int (nI lo), .int (nI hi)]) [.ref 34] 59 H 0 0 Q := by
    intro hn
    refine kX6_number_26 ?_
    refine zb_go (zg_iconst 0 (by decide)) rfl ?_
    refine zb_out ?_
    refine kX6_number_27 ?_
    refine zb_callvx (r_X6_dueF h34) lX6_123 (by repeat (first | assumption | exact z_up_self _ _ _ | refine (z_up_ne (by first | decide | omega)).trans ?_)) rfl rfl (by first | decide | assumption | omega) (by first | decide | omega) rfl (Nat.le_of_ble_eq_true rfl) rfl ?_
    rintro v h' ⟨rfl, rfl⟩
    refine zb_end (zg_ireturn rfl (by rfl) ?_) rfl
    exact hQ _ _ ⟨rfl, Or.inr ⟨k2 hn, rfl⟩⟩
  refine kX6_number_0 ?_
  refine zb_go (zg_aload_n rfl) rfl ?_
  refine zb_go (zg_aload_n rfl) rfl ?_
  refine zb_go (zg_getfield fX6_110 (by first | decide | assumption | omega) (by repeat (first | assumption | exact z_up_self _ _ _ | refine (z_up_ne (by first | decide | omega)).trans ?_)) (by rfl)) rfl ?_
  refine zb_go (zg_bipush 6 (by decide)) rfl ?_
  refine zb_br (zg_icmp_ne (tgt := 26) (by decide)) rfl (fun c0 => ?_) (fun c0 => ?_)
  · exact bad (fun q => c0 (by rw [q.1]; rfl))
  · have c0 : kSo f len e = 6 := (nI_eq (b := 6) (by omega) (by decide)).mp c0
    by_cases q : lo ≤ kVa f len e ∧ kVa f len e ≤ hi
    · have hin : nI lo ≤ nI (kVa f len e) ∧ nI (kVa f len e) ≤ nI hi := ⟨nI_le q.1 (by omega), nI_le q.2 (by omega)⟩
      refine zb_go (zg_aload_n rfl) rfl ?_
      refine zb_go (zg_getfield fX6_107 (by first | decide | assumption | omega) (by repeat (first | assumption | exact z_up_self _ _ _ | refine (z_up_ne (by first | decide | omega)).trans ?_)) (by rfl)) rfl ?_
      refine zb_go (zg_iload_n rfl) rfl ?_
      refine zb_go (zg_iload_n rfl) rfl ?_
      refine zb_calls (r_X6_inT hin) lX6_87 rfl (by first | decide | omega) rfl (Nat.le_of_ble_eq_true rfl) rfl ?_
      refine zb_br (zg_if_eq (tgt := 26) (by decide)) rfl (fun c1 => ?_) (fun c1 => ?_)
      · exact absurd c1 (by decide)
      · refine zb_go (zg_iconst 1 (by decide)) rfl ?_
        refine zb_end (zg_goto (tgt := 27) (by decide) ?_) rfl
        refine kX6_number_27 ?_
        refine zb_callvx (r_X6_dueT h34 h35 htx hl (kAt_le he)) lX6_123 (by repeat (first | assumption | exact z_up_self _ _ _ | refine (z_up_ne (by first | decide | omega)).trans ?_)) rfl rfl (by first | decide | assumption | omega) (by first | decide | omega) rfl (Nat.le_of_ble_eq_true rfl) rfl ?_
        rintro v h' ⟨rfl, rfl⟩
        refine zb_end (zg_ireturn rfl (by rfl) ?_) rfl
        exact hQ _ _ ⟨rfl, Or.inl ⟨k1 ⟨c0, q⟩, rfl⟩⟩
    · have hin : ¬ (nI lo ≤ nI (kVa f len e) ∧ nI (kVa f len e) ≤ nI hi) := fun w => q ⟨(nI_leI (by omega) (by omega)).mp w.1, (nI_leI (by omega) (by omega)).mp w.2⟩
      refine zb_go (zg_aload_n rfl) rfl ?_
      refine zb_go (zg_getfield fX6_107 (by first | decide | assumption | omega) (by repeat (first | assumption | exact z_up_self _ _ _ | refine (z_up_ne (by first | decide | omega)).trans ?_)) (by rfl)) rfl ?_
      refine zb_go (zg_iload_n rfl) rfl ?_
      refine zb_go (zg_iload_n rfl) rfl ?_
      refine zb_calls (r_X6_inF hin) lX6_87 rfl (by first | decide | omega) rfl (Nat.le_of_ble_eq_true rfl) rfl ?_
      refine zb_br (zg_if_eq (tgt := 26) (by decide)) rfl (fun c1 => ?_) (fun c1 => ?_)
      · exact bad (fun w => q w.2)
      · exact absurd rfl c1
end
