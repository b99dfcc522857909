/-! SCRIPT (2): numbers, ends, items -/
section
variable {K : zK} {l : Launch} {n p q i : Nat} {len : Nat} {f tx nu to : Nat → Int32} {h : zH} {fa pl x y : Int32} {P : zP} {tob : Nat → Bool}
theorem r_X4_endsTooEarly (hs : isScript h (nI len) (nI i) (-1) tx nu to) (hl : len ≤ 200) (hi : i ≤ len) : zRex K l 0 mX4_endsTooEarly [.ref 1] 59 h (fun v h' => (len ≤ i ∧ v = some (.int 1) ∧ isScript h' (nI len) (nI i) (nI len) tx nu to ∧ zSame 1 4 h h') ∨ (i < len ∧ v = some (.int 0) ∧ h' = h)) := by
  refine zRex.of (by decide) (Nat.le_of_ble_eq_true rfl) (fun Q hQ => ?_)
  obtain ⟨h1, h2, h3, h4⟩ := id hs
  refine kX4_endsTooEarly_0 ?_
  refine zb_go (zg_aload_n rfl) rfl ?_
  refine zb_go (zg_getfield fX4_19 (by first | assumption | decide | omega) (by repeat (first | assumption | exact z_up_self _ _ _ | refine (z_up_ne (by first | decide | omega)).trans ?_)) (by rfl)) rfl ?_
  refine zb_go (zg_aload_n rfl) rfl ?_
  refine zb_go (zg_getfield fX4_11 (by first | assumption | decide | omega) (by repeat (first | assumption | exact z_up_self _ _ _ | refine (z_up_ne (by first | decide | omega)).trans ?_)) (by rfl)) rfl ?_
  refine zb_br (zg_icmp_lt (tgt := 21) (by decide)) rfl (fun c => ?_) (fun c => ?_)
  · refine kX4_endsTooEarly_21 ?_
    refine zb_go (zg_iconst 0 (by decide)) rfl ?_
    refine zb_end (zg_ireturn rfl (by rfl) ?_) rfl
    exact hQ _ _ (Or.inr ⟨(nI_ltI (by omega) (by omega)).mp c, rfl, rfl⟩)
  · have hle : len ≤ i := by
      rcases Nat.lt_or_ge i len with z | z
      · exact absurd (nI_lt z (by omega)) c
      · exact z
    refine zb_go (zg_aload_n rfl) rfl ?_
    refine zb_go (zg_aload_n rfl) rfl ?_
    refine zb_go (zg_getfield fX4_11 (by first | assumption | decide | omega) (by repeat (first | assumption | exact z_up_self _ _ _ | refine (z_up_ne (by first | decide | omega)).trans ?_)) (by rfl)) rfl ?_
    refine zb_go (zg_putfield fX4_22 (by first | assumption | decide | omega) (by repeat (first | assumption | exact z_up_self _ _ _ | refine (z_up_ne (by first | decide | omega)).trans ?_)) (by exact Nat.le_of_ble_eq_true rfl) (by rfl) (by rfl) (by first | exact Or.inl rfl | exact Or.inr ⟨rfl, rfl⟩)) rfl ?_
    refine zb_go (zg_iconst 1 (by decide)) rfl ?_
    refine zb_end (zg_ireturn rfl (by rfl) ?_) rfl
    exact hQ _ _ (Or.inl ⟨hle, rfl, hs.setFa, zSame.rf.up (by omega) (by omega)⟩)
theorem z_ne1 {k : Nat} (hk : k < 2 ^ 31) : nI k ≠ -1 := fun z => nI_pos hk (by rw [z]; decide)
/-- a number's token, read by the class: capped at 1000 -/
def cVal (f : Nat → Int32) (i : Nat) : Nat → Nat
  | 0 => 0
  | j + 1 => min (10 * cVal f i j + ((f (i + j)).toNatClampNeg - 48)) 1000
theorem cVal_min (f : Nat → Int32) (i j : Nat) : min (cVal f i j) 100 = pVal f i j := by
  induction j with
  | zero => rfl
  | succ j ih =>
    simp only [cVal, pVal, ← ih]
    omega
theorem cVal_le (f : Nat → Int32) (i j : Nat) : cVal f i j ≤ 1000 := by
  cases j with
  | zero => exact Nat.zero_le _
  | succ j => exact Nat.min_le_right _ _
theorem z_min1000 {a b : Nat} (ha : a ≤ 1000) (hb : 48 ≤ b) (hb2 : b ≤ 57) : (if (1000 : Int32) < nI a * 10 + nI b - 48 then (1000 : Int32) else nI a * 10 + nI b - 48) = nI (min (10 * a + (b - 48)) 1000) := by
  rw [show (10 : Int32) = nI 10 from rfl, pk_mul, nI_add, show (48 : Int32) = nI 48 from rfl, pk_sub (by omega), show a * 10 + b - 48 = 10 * a + (b - 48) by omega]
  rcases Nat.lt_or_ge 1000 (10 * a + (b - 48)) with z | z
  · rw [if_pos (show (1000 : Int32) < nI _ from nI_lt (a := 1000) z (by omega)), Nat.min_eq_right (by omega)]; rfl
  · rw [if_neg (show ¬ (1000 : Int32) < nI _ from nI_nlt (a := 1000) z (by decide)), Nat.min_eq_left z]
theorem r_X4_readNumber {ix lo hi : Nat} (hs : isScript h (nI len) (nI i) fa tx nu to) (hl : len ≤ 200) (hi0 : i ≤ len) (hf : ∀ j, j < len → tx j = f j) (hix : ix < 4) (hlo : lo ≤ 60) (hhi : hi ≤ 60) : zRex K l 1 mX4_readNumber [.ref 1, .int (nI ix), .int (nI lo), .int (nI hi)] 59 h (fun v h' => v = none ∧ zSame 1 4 h h' ∧
    ((fa ≠ -1 ∧ ∃ k, k ≤ len ∧ isScript h' (nI len) (nI k) fa tx nu to) ∨ (fa = -1 ∧ Sum.elim (fun x => ∃ k, k ≤ len ∧ isScript h' (nI len) (nI k) (nI x) tx nu to) (fun q => isScript h' (nI len) (nI q.2) (-1) tx (upd nu ix (nI q.1)) to) (pNum f len lo hi i)))) := by
  refine zRex.of (by decide) (Nat.le_of_ble_eq_true rfl) (fun Q hQ => ?_)
  have a1 := pSk_le (f := f) hi0
  obtain ⟨h1, h2, h3, h4⟩ := id hs
  refine kX4_readNumber_0 ?_
  refine zb_go (zg_aload_n rfl) rfl ?_
  refine zb_callvx (r_X4_skipBlanks hs hl hi0 hf) lX4_38 (by repeat (first | assumption | exact z_up_self _ _ _ | refine (z_up_ne (by first | decide | omega)).trans ?_)) rfl rfl (by first | assumption | decide | omega) (by decide) rfl (Nat.le_of_ble_eq_true rfl) rfl ?_
  rintro v h1 ⟨rfl, hs1, hsm1⟩
  obtain ⟨g1, g2, g3, g4⟩ := id hs1
  generalize hA : pSk f len i = A at a1 hs1 g1
  refine zb_go (zg_aload_n rfl) rfl ?_
  refine zb_go (zg_getfield fX4_22 (by first | assumption | decide | omega) (by repeat (first | assumption | exact z_up_self _ _ _ | refine (z_up_ne (by first | decide | omega)).trans ?_)) (by rfl)) rfl ?_
  refine zb_go (zg_iconst (-1) (by decide)) rfl ?_
  refine zb_br (zg_icmp_ne (tgt := 19) (by decide)) rfl (fun c0 => ?_) (fun c0 => ?_)
  · refine kX4_readNumber_19 ?_
    refine zb_end (zg_return rfl ?_) rfl
    exact hQ _ _ ⟨rfl, hsm1, Or.inl ⟨c0, A, a1, hs1⟩⟩
  · subst c0
    refine zb_go (zg_aload_n rfl) rfl ?_
    refine zb_callvx (r_X4_endsTooEarly hs1 hl a1) lX4_100 (by repeat (first | assumption | exact z_up_self _ _ _ | refine (z_up_ne (by first | decide | omega)).trans ?_)) rfl rfl (by first | assumption | decide | omega) (by decide) rfl (Nat.le_of_ble_eq_true rfl) rfl ?_
    rintro v h2 (⟨e1, rfl, hs2, hsm2⟩ | ⟨e1, rfl, rfl⟩)
    · refine zb_br (zg_if_eq (tgt := 20) (by decide)) rfl (fun c1 => ?_) (fun c1 => ?_)
      · exact absurd c1 (by decide)
      · refine zb_out ?_
        refine kX4_readNumber_19 ?_
        refine zb_end (zg_return rfl ?_) rfl
        refine hQ _ _ ⟨rfl, hsm1.trans hsm2, Or.inr ⟨rfl, ?_⟩⟩
        unfold pNum
        rw [hA, if_pos e1]
        exact ⟨A, a1, hs2⟩
    · refine zb_br (zg_if_eq (tgt := 20) (by decide)) rfl (fun c1 => ?_) (fun c1 => ?_)
      · have hD := pDg_le (f := f) a1
        have hDge : A ≤ pDg f len A := pRun_ge _ _ _ _
        -- behind the digits
        have fin : ∀ h0, isScript h0 (nI len) (nI (pDg f len A)) (-1) tx nu to → zSame 1 4 h h0 → zGo K l 1 mX4_readNumber 107 [(0, .ref 1), (1, .int (nI ix)), (2, .int (nI lo)), (3, .int (nI hi)), (4, .int (nI A)), (5, .int (nI (cVal f A (pDg f len A - A))))] [] 59 h0 0 0 Q := by
          intro h0 hs0 hsm
          obtain ⟨g1, g2, g3, g4⟩ := id hs0
          have hv := cVal_min f A (pDg f len A - A)
          have hv2 := cVal_le f A (pDg f len A - A)
          generalize hC : cVal f A (pDg f len A - A) = C at hv hv2
          generalize hB : pDg f len A = B at hD hDge hs0 g1 hv hQ
          have bad : (B = A ∨ (1 < B - A ∧ f A = 48) ∨ pVal f A (B - A) < lo ∨ hi < pVal f A (B - A)) → ∀ z : Value, zGo K l 1 mX4_readNumber 163 [(0, .ref 1), (1, .int (nI ix)), (2, .int (nI lo)), (3, .int (nI hi)), (4, .int (nI A)), (5, .int (nI C)), (6, z)] [] 59 h0 0 0 Q := by
            intro hb z
            refine kX4_readNumber_163 ?_
            refine zb_go (zg_aload_n rfl) rfl ?_
            refine zb_go (zg_iload rfl) rfl ?_
            refine zb_go (zg_putfield fX4_22 (by first | assumption | decide | omega) (by repeat (first | assumption | exact z_up_self _ _ _ | refine (z_up_ne (by first | decide | omega)).trans ?_)) (by exact Nat.le_of_ble_eq_true rfl) (by rfl) (by rfl) (by first | exact Or.inl rfl | exact Or.inr ⟨rfl, rfl⟩)) rfl ?_
            refine zb_end (zg_return rfl ?_) rfl
            refine hQ _ _ ⟨rfl, hsm.up (by omega) (by omega), Or.inr ⟨rfl, ?_⟩⟩
            unfold pNum
            rw [hA, hB, if_neg (by omega), if_pos hb]
            exact ⟨B, hD, hs0.setFa⟩
          have go : ∀ za : Int32, (za = 1 ∨ za = 0) → (za = 1 ↔ (1 < B - A ∧ f A = 48)) → zGo K l 1 mX4_readNumber 135 [(0, .ref 1), (1, .int (nI ix)), (2, .int (nI lo)), (3, .int (nI hi)), (4, .int (nI A)), (5, .int (nI C))] [.int za] 59 h0 0 0 Q := by
            intro za hza hiff
            refine kX4_readNumber_135 ?_
            refine zb_go (zg_istore (by decide)) rfl ?_
            refine zb_go (zg_aload_n rfl) rfl ?_
            refine zb_go (zg_getfield fX4_19 (by first | assumption | decide | omega) (by repeat (first | assumption | exact z_up_self _ _ _ | refine (z_up_ne (by first | decide | omega)).trans ?_)) (by rfl)) rfl ?_
            refine zb_go (zg_iload rfl) rfl ?_
            refine zb_br (zg_icmp_eq (tgt := 163) (by decide)) rfl (fun c2 => ?_) (fun c2 => ?_)
            · exact bad (Or.inl ((nI_eq (by omega) (by omega)).mp c2)) _
            · refine zb_go (zg_iload rfl) rfl ?_
              refine zb_br (zg_if_ne (tgt := 163) (by decide)) rfl (fun c3 => ?_) (fun c3 => ?_)
              · refine bad (Or.inr (Or.inl (hiff.mp ?_))) _
                rcases hza with z | z
                · exact z
                · exact absurd z c3
              · refine zb_go (zg_iload rfl) rfl ?_
                refine zb_go (zg_iload_n rfl) rfl ?_
                refine zb_br (zg_icmp_lt (tgt := 163) (by decide)) rfl (fun c4 => ?_) (fun c4 => ?_)
                · have c4 := (nI_ltI (by omega) (by omega)).mp c4
                  exact bad (Or.inr (Or.inr (Or.inl (by omega)))) _
                · have c4 : lo ≤ C := by
                    rcases Nat.lt_or_ge C lo with z | z
                    · exact absurd (nI_lt z (by omega)) c4
                    · exact z
                  refine zb_go (zg_iload rfl) rfl ?_
                  refine zb_go (zg_iload_n rfl) rfl ?_
                  refine zb_br (zg_icmp_le (tgt := 170) (by decide)) rfl (fun c5 => ?_) (fun c5 => ?_)
                  · have c5 := (nI_leI (by omega) (by omega)).mp c5
                    refine kX4_readNumber_170 ?_
                    refine zb_go (zg_aload_n rfl) rfl ?_
                    refine zb_go (zg_getfield fX4_25 (by first | assumption | decide | omega) (by repeat (first | assumption | exact z_up_self _ _ _ | refine (z_up_ne (by first | decide | omega)).trans ?_)) (by rfl)) rfl ?_
                    refine zb_go (zg_iload_n rfl) rfl ?_
                    refine zb_go (zg_iload rfl) rfl ?_
                    refine zb_go (zi_iastore (by first | assumption | decide | omega) (by repeat (first | assumption | exact z_up_self _ _ _ | refine (z_up_ne (by first | decide | omega)).trans ?_)) (by first | assumption | exact zIx.nI (by omega) (by decide) | exact ⟨by decide, by decide⟩)) rfl ?_
                    refine zb_end (zg_return rfl ?_) rfl
                    refine hQ _ _ ⟨rfl, hsm.up (by omega) (by omega), Or.inr ⟨rfl, ?_⟩⟩
                    have hnb : ¬ (B = A ∨ (1 < B - A ∧ f A = 48) ∨ pVal f A (B - A) < lo ∨ hi < pVal f A (B - A)) := by
                      rintro (z | z | z | z)
                      · exact c2 (by rw [z])
                      · exact absurd (hiff.mpr z) (by rw [c3]; decide)
                      · omega
                      · omega
                    unfold pNum
                    rw [hA, hB, if_neg (by omega), if_neg hnb]
                    have e9 : pVal f A (B - A) = C := by omega
                    rw [e9]
                    exact ⟨(z_up_ne (by decide)).trans g1, (z_up_ne (by decide)).trans g2, z_up_self _ _ _, (z_up_ne (by decide)).trans g4⟩
                  · have c5 : ¬ C ≤ hi := fun z => c5 (nI_le z (by omega))
                    refine zb_out ?_
                    exact bad (Or.inr (Or.inr (Or.inr (by omega)))) _
          refine kX4_readNumber_107 ?_
          refine zb_go (zg_aload_n rfl) rfl ?_
          refine zb_go (zg_getfield fX4_19 (by first | assumption | decide | omega) (by repeat (first | assumption | exact z_up_self _ _ _ | refine (z_up_ne (by first | decide | omega)).trans ?_)) (by rfl)) rfl ?_
          refine zb_go (zg_iload rfl) rfl ?_
          refine zb_go zg_isub rfl ?_
          rw [pk_sub hDge]
          refine zb_go (zg_iconst 1 (by decide)) rfl ?_
          refine zb_br (zg_icmp_le (tgt := 134) (by decide)) rfl (fun c2 => ?_) (fun c2 => ?_)
          · have c2 := (nI_leI (b := 1) (by omega) (by decide)).mp c2
            refine kX4_readNumber_134 ?_
            refine zb_go (zg_iconst 0 (by decide)) rfl ?_
            refine zb_out ?_
            exact go 0 (Or.inr rfl) ⟨fun z => absurd z (by decide), fun z => by omega⟩
          · have c2 : 1 < B - A := by
              rcases Nat.lt_or_ge 1 (B - A) with z | z
              · exact z
              · exact absurd (nI_le (b := 1) z (by decide)) c2
            refine zb_go (zg_aload_n rfl) rfl ?_
            refine zb_go (zg_getfield fX4_15 (by first | assumption | decide | omega) (by repeat (first | assumption | exact z_up_self _ _ _ | refine (z_up_ne (by first | decide | omega)).trans ?_)) (by rfl)) rfl ?_
            refine zb_go (zg_iload rfl) rfl ?_
            refine zb_go (zi_baload (by first | assumption | decide | omega) (by repeat (first | assumption | exact z_up_self _ _ _ | refine (z_up_ne (by first | decide | omega)).trans ?_)) (zIx.nI (show A < 200 by omega) (by decide))) rfl ?_
            refine zb_go (zg_bipush 48 (by decide)) rfl ?_
            refine zb_br (zg_icmp_ne (tgt := 134) (by decide)) rfl (fun c3 => ?_) (fun c3 => ?_)
            · rw [hf A e1] at c3
              refine kX4_readNumber_134 ?_
              refine zb_go (zg_iconst 0 (by decide)) rfl ?_
              refine zb_out ?_
              exact go 0 (Or.inr rfl) ⟨fun z => absurd z (by decide), fun z => absurd z.2 c3⟩
            · rw [hf A e1] at c3
              refine zb_go (zg_iconst 1 (by decide)) rfl ?_
              refine zb_end (zg_goto (tgt := 135) (by decide) ?_) rfl
              exact go 1 (Or.inl rfl) ⟨fun _ => ⟨c2, c3⟩, fun _ => rfl⟩
        have lp : ∀ j k h0, len ≤ k + j → A ≤ k → k ≤ len → isScript h0 (nI len) (nI k) (-1) tx nu to → zSame 1 4 h h0 → pRun (p09 f) len j k = pDg f len A → zGo K l 1 mX4_readNumber 29 [(0, .ref 1), (1, .int (nI ix)), (2, .int (nI lo)), (3, .int (nI hi)), (4, .int (nI A)), (5, .int (nI (cVal f A (k - A))))] [] 59 h0 0 0 Q := by
          intro j
          induction j with
          | zero =>
            intro k h0 hk hak hkl hs0 hsm he
            obtain ⟨g1, g2, g3, g4⟩ := id hs0
            have he : k = pDg f len A := he
            refine kX4_readNumber_29 ?_
            refine zb_go (zg_aload_n rfl) rfl ?_
            refine zb_go (zg_getfield fX4_19 (by first | assumption | decide | omega) (by repeat (first | assumption | exact z_up_self _ _ _ | refine (z_up_ne (by first | decide | omega)).trans ?_)) (by rfl)) rfl ?_
            refine zb_go (zg_aload_n rfl) rfl ?_
            refine zb_go (zg_getfield fX4_11 (by first | assumption | decide | omega) (by repeat (first | assumption | exact z_up_self _ _ _ | refine (z_up_ne (by first | decide | omega)).trans ?_)) (by rfl)) rfl ?_
            refine zb_br (zg_icmp_ge (tgt := 107) (by decide)) rfl (fun c => ?_) (fun c => ?_)
            · rw [he] at hs0 ⊢
              exact fin h0 hs0 hsm
            · exact absurd (nI_le (show len ≤ k by omega) (by omega)) c
          | succ j ih =>
            intro k h0 hk hak hkl hs0 hsm he
            obtain ⟨g1, g2, g3, g4⟩ := id hs0
            simp only [pRun] at he
            have fin2 : k = pDg f len A → zGo K l 1 mX4_readNumber 107 [(0, .ref 1), (1, .int (nI ix)), (2, .int (nI lo)), (3, .int (nI hi)), (4, .int (nI A)), (5, .int (nI (cVal f A (k - A))))] [] 59 h0 0 0 Q := by
              intro e
              rw [e] at hs0 ⊢
              exact fin h0 hs0 hsm
            refine kX4_readNumber_29 ?_
            refine zb_go (zg_aload_n rfl) rfl ?_
            refine zb_go (zg_getfield fX4_19 (by first | assumption | decide | omega) (by repeat (first | assumption | exact z_up_self _ _ _ | refine (z_up_ne (by first | decide | omega)).trans ?_)) (by rfl)) rfl ?_
            refine zb_go (zg_aload_n rfl) rfl ?_
            refine zb_go (zg_getfield fX4_11 (by first | assumption | decide | omega) (by repeat (first | assumption | exact z_up_self _ _ _ | refine (z_up_ne (by first | decide | omega)).trans ?_)) (by rfl)) rfl ?_
            refine zb_br (zg_icmp_ge (tgt := 107) (by decide)) rfl (fun c0 => ?_) (fun c0 => ?_)
            · have c0 := (nI_leI (by omega) (by omega)).mp c0
              rw [if_neg (by omega)] at he
              exact fin2 he
            · have hkl : k < len := Nat.not_le.mp (fun q => c0 (nI_le q (by omega)))
              refine zb_go (zg_aload_n rfl) rfl ?_
              refine zb_go (zg_getfield fX4_15 (by first | assumption | decide | omega) (by repeat (first | assumption | exact z_up_self _ _ _ | refine (z_up_ne (by first | decide | omega)).trans ?_)) (by rfl)) rfl ?_
              refine zb_go (zg_aload_n rfl) rfl ?_
              refine zb_go (zg_getfield fX4_19 (by first | assumption | decide | omega) (by repeat (first | assumption | exact z_up_self _ _ _ | refine (z_up_ne (by first | decide | omega)).trans ?_)) (by rfl)) rfl ?_
              refine zb_go (zi_baload (by first | assumption | decide | omega) (by repeat (first | assumption | exact z_up_self _ _ _ | refine (z_up_ne (by first | decide | omega)).trans ?_)) (zIx.nI (show k < 200 by omega) (by decide))) rfl ?_
              refine zb_go (zg_bipush 48 (by decide)) rfl ?_
              refine zb_br (zg_icmp_lt (tgt := 107) (by decide)) rfl (fun c1 => ?_) (fun c1 => ?_)
              · rw [hf k hkl] at c1
                have hz : p09 f k = false := by unfold p09; rw [decide_eq_false (Int32.not_le.mpr c1)]; rfl
                rw [if_neg (fun q => by rw [hz] at q; exact absurd q.2 (by decide))] at he
                exact fin2 he
              · rw [hf k hkl] at c1
                refine zb_go (zg_aload_n rfl) rfl ?_
                refine zb_go (zg_getfield fX4_15 (by first | assumption | decide | omega) (by repeat (first | assumption | exact z_up_self _ _ _ | refine (z_up_ne (by first | decide | omega)).trans ?_)) (by rfl)) rfl ?_
                refine zb_go (zg_aload_n rfl) rfl ?_
                refine zb_go (zg_getfield fX4_19 (by first | assumption | decide | omega) (by repeat (first | assumption | exact z_up_self _ _ _ | refine (z_up_ne (by first | decide | omega)).trans ?_)) (by rfl)) rfl ?_
                refine zb_go (zi_baload (by first | assumption | decide | omega) (by repeat (first | assumption | exact z_up_self _ _ _ | refine (z_up_ne (by first | decide | omega)).trans ?_)) (zIx.nI (show k < 200 by omega) (by decide))) rfl ?_
                refine zb_go (zg_bipush 57 (by decide)) rfl ?_
                refine zb_br (zg_icmp_gt (tgt := 107) (by decide)) rfl (fun c2 => ?_) (fun c2 => ?_)
                · rw [hf k hkl] at c2
                  have hz : p09 f k = false := by unfold p09; rw [decide_eq_false (Int32.not_le.mpr c2), Bool.and_false]
                  rw [if_neg (fun q => by rw [hz] at q; exact absurd q.2 (by decide))] at he
                  exact fin2 he
                · rw [hf k hkl] at c2
                  have c1 := Int32.not_lt.mp c1
                  have c2 := Int32.not_lt.mp c2
                  have hz : p09 f k = true := by unfold p09; rw [decide_eq_true c1, decide_eq_true c2]; rfl
                  rw [if_pos ⟨hkl, hz⟩] at he
                  obtain ⟨b, hb, eb⟩ : ∃ b, (48 ≤ b ∧ b ≤ 57) ∧ f k = nI b := by
                    obtain ⟨b, hb, e⟩ := z_leN (N := 57) (by decide) ⟨Int32.le_trans (by decide) c1, c2⟩
                    rw [e] at c1
                    exact ⟨b, ⟨(nI_leI (a := 48) (by decide) (by omega)).mp c1, hb⟩, e⟩
                  have hcv := cVal_le f A (k - A)
                  have ecv : cVal f A (k + 1 - A) = min (10 * cVal f A (k - A) + (b - 48)) 1000 := by
                    rw [show k + 1 - A = (k - A) + 1 by omega]
                    simp only [cVal]
                    rw [show A + (k - A) = k by omega, eb, nI_clamp (by omega)]
                  refine zb_go (zg_iload rfl) rfl ?_
                  refine zb_go (zg_bipush 10 (by decide)) rfl ?_
                  refine zb_go zg_imul rfl ?_
                  refine zb_go (zg_aload_n rfl) rfl ?_
                  refine zb_go (zg_getfield fX4_15 (by first | assumption | decide | omega) (by repeat (first | assumption | exact z_up_self _ _ _ | refine (z_up_ne (by first | decide | omega)).trans ?_)) (by rfl)) rfl ?_
                  refine zb_go (zg_aload_n rfl) rfl ?_
                  refine zb_go (zg_getfield fX4_19 (by first | assumption | decide | omega) (by repeat (first | assumption | exact z_up_self _ _ _ | refine (z_up_ne (by first | decide | omega)).trans ?_)) (by rfl)) rfl ?_
                  refine zb_go (zi_baload (by first | assumption | decide | omega) (by repeat (first | assumption | exact z_up_self _ _ _ | refine (z_up_ne (by first | decide | omega)).trans ?_)) (zIx.nI (show k < 200 by omega) (by decide))) rfl ?_
                  refine zb_go zg_iadd rfl ?_
                  refine zb_go (zg_bipush 48 (by decide)) rfl ?_
                  refine zb_go zg_isub rfl ?_
                  refine zb_go (zg_sipush 1000 (by decide)) rfl ?_
                  rw [hf k hkl, eb]
                  refine zb_go (zg_mmin wlX4_104 (by decide) (Nat.le_of_ble_eq_true rfl)) rfl ?_
                  refine zb_go (zg_istore (by decide)) rfl ?_
                  refine zb_go (zg_aload_n rfl) rfl ?_
                  refine zb_go (zg_dup rfl) rfl ?_
                  refine zb_go (zg_getfield fX4_19 (by first | assumption | decide | omega) (by repeat (first | assumption | exact z_up_self _ _ _ | refine (z_up_ne (by first | decide | omega)).trans ?_)) (by rfl)) rfl ?_
                  refine zb_go (zg_iconst 1 (by decide)) rfl ?_
                  refine zb_go zg_iadd rfl ?_
                  refine zb_go (zg_putfield fX4_19 (by first | assumption | decide | omega) (by repeat (first | assumption | exact z_up_self _ _ _ | refine (z_up_ne (by first | decide | omega)).trans ?_)) (by exact Nat.le_of_ble_eq_true rfl) (by rfl) (by rfl) (by first | exact Or.inl rfl | exact Or.inr ⟨rfl, rfl⟩)) rfl ?_
                  refine zb_end (zg_goto (tgt := 29) (by decide) ?_) rfl
                  rw [z_min1000 hcv hb.1 hb.2, ← ecv, nI_1]
                  exact ih (k + 1) _ (by omega) (by omega) (by omega) hs0.setPl (hsm.up (by omega) (by omega)) he
        refine kX4_readNumber_20 ?_
        refine zb_go (zg_aload_n rfl) rfl ?_
        refine zb_go (zg_getfield fX4_19 (by first | assumption | decide | omega) (by repeat (first | assumption | exact z_up_self _ _ _ | refine (z_up_ne (by first | decide | omega)).trans ?_)) (by rfl)) rfl ?_
        refine zb_go (zg_istore (by decide)) rfl ?_
        refine zb_go (zg_iconst 0 (by decide)) rfl ?_
        refine zb_go (zg_istore (by decide)) rfl ?_
        refine zb_out ?_
        have e0 : (0 : Int32) = nI (cVal f A (A - A)) := by rw [Nat.sub_self]; rfl
        rw [e0]
        exact lp 200 A _ (by omega) (Nat.le_refl _) a1 hs1 hsm1 rfl
      · exact absurd rfl c1
theorem r_X4_readEnd (hs : isScript h (nI len) (nI i) fa tx nu to) (hl : len ≤ 200) (hi0 : i ≤ len) (hf : ∀ j, j < len → tx j = f j) : zRex K l 1 mX4_readEnd [.ref 1] 59 h (fun v h' => v = none ∧ zSame 1 4 h h' ∧
    ((fa ≠ -1 ∧ ∃ k, k ≤ len ∧ isScript h' (nI len) (nI k) fa tx nu to) ∨ (fa = -1 ∧ Sum.elim (fun x => ∃ k, k ≤ len ∧ isScript h' (nI len) (nI k) (nI x) tx nu to) (fun j => isScript h' (nI len) (nI j) (-1) tx nu to) (pEnd f len i)))) := by
  refine zRex.of (by decide) (Nat.le_of_ble_eq_true rfl) (fun Q hQ => ?_)
  have a1 := pSk_le (f := f) hi0
  obtain ⟨h1, h2, h3, h4⟩ := id hs
  refine kX4_readEnd_0 ?_
  refine zb_go (zg_aload_n rfl) rfl ?_
  refine zb_callvx (r_X4_skipBlanks hs hl hi0 hf) lX4_38 (by repeat (first | assumption | exact z_up_self _ _ _ | refine (z_up_ne (by first | decide | omega)).trans ?_)) rfl rfl (by first | assumption | decide | omega) (by decide) rfl (Nat.le_of_ble_eq_true rfl) rfl ?_
  rintro v h1 ⟨rfl, hs1, hsm1⟩
  obtain ⟨g1, g2, g3, g4⟩ := id hs1
  generalize hA : pSk f len i = A at a1 hs1 g1
  refine zb_go (zg_aload_n rfl) rfl ?_
  refine zb_go (zg_getfield fX4_22 (by first | assumption | decide | omega) (by repeat (first | assumption | exact z_up_self _ _ _ | refine (z_up_ne (by first | decide | omega)).trans ?_)) (by rfl)) rfl ?_
  refine zb_go (zg_iconst (-1) (by decide)) rfl ?_
  refine zb_br (zg_icmp_ne (tgt := 19) (by decide)) rfl (fun c0 => ?_) (fun c0 => ?_)
  · refine kX4_readEnd_19 ?_
    refine zb_end (zg_return rfl ?_) rfl
    exact hQ _ _ ⟨rfl, hsm1, Or.inl ⟨c0, A, a1, hs1⟩⟩
  · subst c0
    refine zb_go (zg_aload_n rfl) rfl ?_
    refine zb_callvx (r_X4_endsTooEarly hs1 hl a1) lX4_100 (by repeat (first | assumption | exact z_up_self _ _ _ | refine (z_up_ne (by first | decide | omega)).trans ?_)) rfl rfl (by first | assumption | decide | omega) (by decide) rfl (Nat.le_of_ble_eq_true rfl) rfl ?_
    rintro v h2 (⟨e1, rfl, hs2, hsm2⟩ | ⟨e1, rfl, rfl⟩)
    · refine zb_br (zg_if_eq (tgt := 20) (by decide)) rfl (fun c1 => ?_) (fun c1 => ?_)
      · exact absurd c1 (by decide)
      · refine zb_out ?_
        refine kX4_readEnd_19 ?_
        refine zb_end (zg_return rfl ?_) rfl
        refine hQ _ _ ⟨rfl, hsm1.trans hsm2, Or.inr ⟨rfl, ?_⟩⟩
        unfold pEnd
        rw [hA, if_pos e1]
        exact ⟨A, a1, hs2⟩
    · refine zb_br (zg_if_eq (tgt := 20) (by decide)) rfl (fun c1 => ?_) (fun c1 => ?_)
      · refine kX4_readEnd_20 ?_
        refine zb_go (zg_aload_n rfl) rfl ?_
        refine zb_go (zg_getfield fX4_15 (by first | assumption | decide | omega) (by repeat (first | assumption | exact z_up_self _ _ _ | refine (z_up_ne (by first | decide | omega)).trans ?_)) (by rfl)) rfl ?_
        refine zb_go (zg_aload_n rfl) rfl ?_
        refine zb_go (zg_getfield fX4_19 (by first | assumption | decide | omega) (by repeat (first | assumption | exact z_up_self _ _ _ | refine (z_up_ne (by first | decide | omega)).trans ?_)) (by rfl)) rfl ?_
        refine zb_go (zi_baload (by first | assumption | decide | omega) (by repeat (first | assumption | exact z_up_self _ _ _ | refine (z_up_ne (by first | decide | omega)).trans ?_)) (zIx.nI (show A < 200 by omega) (by decide))) rfl ?_
        refine zb_go (zg_bipush 59 (by decide)) rfl ?_
        refine zb_br (zg_icmp_eq (tgt := 43) (by decide)) rfl (fun c2 => ?_) (fun c2 => ?_)
        · rw [hf A e1] at c2
          refine kX4_readEnd_43 ?_
          refine zb_go (zg_aload_n rfl) rfl ?_
          refine zb_go (zg_dup rfl) rfl ?_
          refine zb_go (zg_getfield fX4_19 (by first | assumption | decide | omega) (by repeat (first | assumption | exact z_up_self _ _ _ | refine (z_up_ne (by first | decide | omega)).trans ?_)) (by rfl)) rfl ?_
          refine zb_go (zg_iconst 1 (by decide)) rfl ?_
          refine zb_go zg_iadd rfl ?_
          refine zb_go (zg_putfield fX4_19 (by first | assumption | decide | omega) (by repeat (first | assumption | exact z_up_self _ _ _ | refine (z_up_ne (by first | decide | omega)).trans ?_)) (by exact Nat.le_of_ble_eq_true rfl) (by rfl) (by rfl) (by first | exact Or.inl rfl | exact Or.inr ⟨rfl, rfl⟩)) rfl ?_
          refine zb_end (zg_return rfl ?_) rfl
          rw [nI_1]
          refine hQ _ _ ⟨rfl, hsm1.up (by omega) (by omega), Or.inr ⟨rfl, ?_⟩⟩
          unfold pEnd
          rw [hA, if_neg (by omega), if_pos c2]
          exact hs1.setPl
        · rw [hf A e1] at c2
          refine zb_go (zg_aload_n rfl) rfl ?_
          refine zb_go (zg_aload_n rfl) rfl ?_
          refine zb_go (zg_getfield fX4_19 (by first | assumption | decide | omega) (by repeat (first | assumption | exact z_up_self _ _ _ | refine (z_up_ne (by first | decide | omega)).trans ?_)) (by rfl)) rfl ?_
          refine zb_go (zg_putfield fX4_22 (by first | assumption | decide | omega) (by repeat (first | assumption | exact z_up_self _ _ _ | refine (z_up_ne (by first | decide | omega)).trans ?_)) (by exact Nat.le_of_ble_eq_true rfl) (by rfl) (by rfl) (by first | exact Or.inl rfl | exact Or.inr ⟨rfl, rfl⟩)) rfl ?_
          refine zb_end (zg_return rfl ?_) rfl
          refine hQ _ _ ⟨rfl, hsm1.up (by omega) (by omega), Or.inr ⟨rfl, ?_⟩⟩
          unfold pEnd
          rw [hA, if_neg (by omega), if_neg c2]
          exact ⟨A, a1, hs1.setFa⟩
      · exact absurd rfl c1
end
