/-! SCRIPT (5): the whole text read -/
section
variable {K : zK} {l : Launch} {n p q i : Nat} {len : Nat} {f tx nu to : Nat → Int32} {h : zH} {fa pl x y : Int32} {P : zP} {tob : Nat → Bool} {G : zS}
theorem isPar.zero (hP : isPar h q (pEmpty P)) : isPar h q zP0 := by
  obtain ⟨h1, ⟨f1, a2, b2⟩, ⟨f2, a3, b3⟩, ⟨f3, a4, b4⟩, ⟨f4, a5, b5⟩, ⟨f5, a6, b6⟩⟩ := id hP
  exact ⟨h1, ⟨f1, a2, fun i hi => absurd hi (Nat.not_lt_zero _)⟩, ⟨f2, a3, fun i hi => absurd hi (Nat.not_lt_zero _)⟩, ⟨f3, a4, fun i hi => absurd hi (Nat.not_lt_zero _)⟩, ⟨f4, a5, fun i hi => absurd hi (Nat.not_lt_zero _)⟩, ⟨f5, a6, fun i hi => absurd hi (Nat.not_lt_zero _)⟩⟩
def rRead (q : Nat) (h : zH) (len : Nat) (tx : Nat → Int32) (R : Nat ⊕ (Nat × zP)) (v : Option Value) (h' : zH) : Prop :=
  zSame2 q h h' ∧ (∃ pl fa nu to, isScript h' (nI len) pl fa tx nu to) ∧ Sum.elim (fun x => v = some (.int (-10 - nI x)) ∧ ∃ P', isPar h' q P') (fun r => v = some (.int (nI r.1)) ∧ isPar h' q r.2) R
theorem r_X4_read (hK : zKok K) (hs : isScript h (nI len) pl fa tx nu to) (hl : len ≤ 200) (hf : ∀ j, j < len → tx j = f j) (hq : isPar h q P) (hqn : q + 5 < 59) (hq5 : 5 ≤ q) : zRex K l 7 mX4_read [.ref 1, .ref q] 59 h (rRead q h len tx (pParse f len)) := by
  refine zRex.of (by decide) (Nat.le_of_ble_eq_true rfl) (fun Q hQ => ?_)
  obtain ⟨h1, h2, h3, h4⟩ := id hs
  have q1 := hq.1
  -- a fault, once the blanks are skipped
  have bad : ∀ {h0 : zH} {x k : Nat} {nu to : Nat → Int32} {a b : Int32}, x ≤ len → pParse f len = .inl x → isScript h0 (nI len) (nI k) (nI x) tx nu to → (∃ P', isPar h0 q P') → zSame2 q h h0 → zGo K l 7 mX4_read 42 [(0, .ref 1), (1, .ref q), (2, .int a), (3, .int b)] [] 59 h0 0 0 Q := by
    intro h0 x k nu to a b hx he hs0 hP0 hsm
    obtain ⟨g1, g2, g3, g4⟩ := id hs0
    have fin : zGo K l 7 mX4_read 86 [(0, .ref 1), (1, .ref q), (2, .int a), (3, .int b)] [] 59 h0 0 0 Q := by
      refine kX4_read_86 ?_
      refine zb_go (zg_aload_n rfl) rfl ?_
      refine zb_go (zg_getfield fX4_22 (by first | assumption | decide | omega) (by repeat (first | assumption | exact z_up_self _ _ _ | refine (z_up_ne (by first | decide | omega)).trans ?_)) (by rfl)) rfl ?_
      refine zb_go (zg_iconst (-1) (by decide)) rfl ?_
      refine zb_br (zg_icmp_ne (tgt := 98) (by decide)) rfl (fun c0 => ?_) (fun c0 => ?_)
      · refine kX4_read_98 ?_
        refine zb_go (zg_bipush (-10) (by decide)) rfl ?_
        refine zb_go (zg_aload_n rfl) rfl ?_
        refine zb_go (zg_getfield fX4_22 (by first | assumption | decide | omega) (by repeat (first | assumption | exact z_up_self _ _ _ | refine (z_up_ne (by first | decide | omega)).trans ?_)) (by rfl)) rfl ?_
        refine zb_go zg_isub rfl ?_
        refine zb_out ?_
        refine kX4_read_105 ?_
        refine zb_end (zg_ireturn rfl (by rfl) ?_) rfl
        exact hQ _ _ ⟨hsm, ⟨_, _, _, _, hs0⟩, by rw [he]; exact ⟨rfl, hP0⟩⟩
      · exact absurd c0 (z_ne1 (by omega))
    refine kX4_read_42 ?_
    refine zb_go (zg_iload_n rfl) rfl ?_
    refine zb_go (zg_sipush 200 (by decide)) rfl ?_
    refine zb_br (zg_icmp_ge (tgt := 86) (by decide)) rfl (fun c0 => ?_) (fun c0 => ?_)
    · exact fin
    · refine zb_go (zg_aload_n rfl) rfl ?_
      refine zb_go (zg_getfield fX4_19 (by first | assumption | decide | omega) (by repeat (first | assumption | exact z_up_self _ _ _ | refine (z_up_ne (by first | decide | omega)).trans ?_)) (by rfl)) rfl ?_
      refine zb_go (zg_aload_n rfl) rfl ?_
      refine zb_go (zg_getfield fX4_11 (by first | assumption | decide | omega) (by repeat (first | assumption | exact z_up_self _ _ _ | refine (z_up_ne (by first | decide | omega)).trans ?_)) (by rfl)) rfl ?_
      refine zb_br (zg_icmp_ge (tgt := 86) (by decide)) rfl (fun c1 => ?_) (fun c1 => ?_)
      · exact fin
      · refine zb_go (zg_aload_n rfl) rfl ?_
        refine zb_go (zg_getfield fX4_22 (by first | assumption | decide | omega) (by repeat (first | assumption | exact z_up_self _ _ _ | refine (z_up_ne (by first | decide | omega)).trans ?_)) (by rfl)) rfl ?_
        refine zb_go (zg_iconst (-1) (by decide)) rfl ?_
        refine zb_br (zg_icmp_ne (tgt := 86) (by decide)) rfl (fun c2 => ?_) (fun c2 => ?_)
        · exact fin
        · exact absurd c2 (z_ne1 (by omega))
  have lp : ∀ j m i h0 P tob nu to, m + j = 200 → i ≤ len → isScript h0 (nI len) (nI i) (-1) tx nu to → (∀ k, k < 5 → to k = if tob k then 1 else 0) → isPar h0 q P → okP P → zSame2 q h h0 → pItems f len j P tob i m = pParse f len → zGo K l 7 mX4_read 42 [(0, .ref 1), (1, .ref q), (2, .int (nI m)), (3, .int (nI m))] [] 59 h0 0 0 Q := by
    intro j
    induction j with
    | zero =>
      intro m i h0 P tob nu to hm hi hs0 ht hP ok hsm he
      obtain ⟨g1, g2, g3, g4⟩ := id hs0
      have he : .inr (m, P) = pParse f len := he
      refine kX4_read_42 ?_
      refine zb_go (zg_iload_n rfl) rfl ?_
      refine zb_go (zg_sipush 200 (by decide)) rfl ?_
      refine zb_br (zg_icmp_ge (tgt := 86) (by decide)) rfl (fun c0 => ?_) (fun c0 => ?_)
      · refine kX4_read_86 ?_
        refine zb_go (zg_aload_n rfl) rfl ?_
        refine zb_go (zg_getfield fX4_22 (by first | assumption | decide | omega) (by repeat (first | assumption | exact z_up_self _ _ _ | refine (z_up_ne (by first | decide | omega)).trans ?_)) (by rfl)) rfl ?_
        refine zb_go (zg_iconst (-1) (by decide)) rfl ?_
        refine zb_br (zg_icmp_ne (tgt := 98) (by decide)) rfl (fun c1 => ?_) (fun c1 => ?_)
        · exact absurd rfl c1
        · refine zb_go (zg_iload_n rfl) rfl ?_
          refine zb_end (zg_goto (tgt := 105) (by decide) ?_) rfl
          refine kX4_read_105 ?_
          refine zb_end (zg_ireturn rfl (by rfl) ?_) rfl
          exact hQ _ _ ⟨hsm, ⟨_, _, _, _, hs0⟩, by rw [← he]; exact ⟨rfl, hP⟩⟩
      · exact absurd (nI_le (a := 200) (by omega) (by omega)) c0
    | succ j ih =>
      intro m i h0 P tob nu to hm hi hs0 ht hP ok hsm he
      obtain ⟨g1, g2, g3, g4⟩ := id hs0
      have e1 := hP.1
      simp only [pItems] at he
      refine kX4_read_42 ?_
      refine zb_go (zg_iload_n rfl) rfl ?_
      refine zb_go (zg_sipush 200 (by decide)) rfl ?_
      refine zb_br (zg_icmp_ge (tgt := 86) (by decide)) rfl (fun c0 => ?_) (fun c0 => ?_)
      · exact absurd ((nI_leI (a := 200) (by decide) (by omega)).mp c0) (by omega)
      · refine zb_go (zg_aload_n rfl) rfl ?_
        refine zb_go (zg_getfield fX4_19 (by first | assumption | decide | omega) (by repeat (first | assumption | exact z_up_self _ _ _ | refine (z_up_ne (by first | decide | omega)).trans ?_)) (by rfl)) rfl ?_
        refine zb_go (zg_aload_n rfl) rfl ?_
        refine zb_go (zg_getfield fX4_11 (by first | assumption | decide | omega) (by repeat (first | assumption | exact z_up_self _ _ _ | refine (z_up_ne (by first | decide | omega)).trans ?_)) (by rfl)) rfl ?_
        refine zb_br (zg_icmp_ge (tgt := 86) (by decide)) rfl (fun c1 => ?_) (fun c1 => ?_)
        · have c1 := (nI_leI (by omega) (by omega)).mp c1
          rw [if_neg (by omega)] at he
          refine kX4_read_86 ?_
          refine zb_go (zg_aload_n rfl) rfl ?_
          refine zb_go (zg_getfield fX4_22 (by first | assumption | decide | omega) (by repeat (first | assumption | exact z_up_self _ _ _ | refine (z_up_ne (by first | decide | omega)).trans ?_)) (by rfl)) rfl ?_
          refine zb_go (zg_iconst (-1) (by decide)) rfl ?_
          refine zb_br (zg_icmp_ne (tgt := 98) (by decide)) rfl (fun c2 => ?_) (fun c2 => ?_)
          · exact absurd rfl c2
          · refine zb_go (zg_iload_n rfl) rfl ?_
            refine zb_end (zg_goto (tgt := 105) (by decide) ?_) rfl
            refine kX4_read_105 ?_
            refine zb_end (zg_ireturn rfl (by rfl) ?_) rfl
            exact hQ _ _ ⟨hsm, ⟨_, _, _, _, hs0⟩, by rw [← he]; exact ⟨rfl, hP⟩⟩
        · have hil : i < len := Nat.not_le.mp (fun q => c1 (nI_le q (by omega)))
          rw [if_pos hil] at he
          refine zb_go (zg_aload_n rfl) rfl ?_
          refine zb_go (zg_getfield fX4_22 (by first | assumption | decide | omega) (by repeat (first | assumption | exact z_up_self _ _ _ | refine (z_up_ne (by first | decide | omega)).trans ?_)) (by rfl)) rfl ?_
          refine zb_go (zg_iconst (-1) (by decide)) rfl ?_
          refine zb_br (zg_icmp_ne (tgt := 86) (by decide)) rfl (fun c2 => ?_) (fun c2 => ?_)
          · exact absurd rfl c2
          · refine zb_go (zg_aload_n rfl) rfl ?_
            refine zb_go (zg_aload_n rfl) rfl ?_
            refine zb_callvx (r_X4_readItem (f := f) (tob := tob) hK hs0 hl hi hf ht hP hqn hq5 ok) lX4_41 (by repeat (first | assumption | exact z_up_self _ _ _ | refine (z_up_ne (by first | decide | omega)).trans ?_)) rfl rfl (by first | assumption | decide | omega) (by decide) rfl (Nat.le_of_ble_eq_true rfl) rfl ?_
            rintro v h5 ⟨rfl, sm5, hi5⟩
            have pk := pItem_ok (f := f) (to := tob) ok hi
            cases ei : pItem f len P tob i with
            | inl x =>
              rw [ei] at hi5 pk he
              obtain ⟨k, nu5, to5, P5, hk, hs5, hP5⟩ := hi5
              have hx : x ≤ len := pk
              have he : .inl x = pParse f len := he
              have k1 := hs5.1
              refine zb_go (zg_iinc 1 (by decide) rfl (by decide)) rfl ?_
              refine zb_go (zg_aload_n rfl) rfl ?_
              refine zb_callvx (r_X4_skipBlanks (f := f) hs5 hl hk hf) lX4_38 (by repeat (first | assumption | exact z_up_self _ _ _ | refine (z_up_ne (by first | decide | omega)).trans ?_)) rfl rfl (by first | assumption | decide | omega) (by decide) rfl (Nat.le_of_ble_eq_true rfl) rfl ?_
              rintro v h6 ⟨rfl, hs6, sm6⟩
              refine zb_go (zg_iinc 1 (by decide) rfl (by decide)) rfl ?_
              refine zb_end (zg_goto (tgt := 42) (by decide) ?_) rfl
              exact bad hx he.symm hs6 ⟨_, hP5.sameS hq5 sm6⟩ ((hsm.trans sm5).trans sm6.two)
            | inr r =>
              obtain ⟨P2, tob2, e⟩ := r
              rw [ei] at hi5 pk he
              obtain ⟨nu5, to5, hs5, ht5, hP5⟩ := hi5
              obtain ⟨ok2, hie, hel⟩ := pk
              have k1 := hs5.1
              have hs5 : isScript h5 (nI len) (nI e) (-1) tx nu5 to5 := hs5
              refine zb_go (zg_iinc 1 (by decide) rfl (by decide)) rfl ?_
              refine zb_go (zg_aload_n rfl) rfl ?_
              refine zb_callvx (r_X4_skipBlanks (f := f) hs5 hl hel hf) lX4_38 (by repeat (first | assumption | exact z_up_self _ _ _ | refine (z_up_ne (by first | decide | omega)).trans ?_)) rfl rfl (by first | assumption | decide | omega) (by decide) rfl (Nat.le_of_ble_eq_true rfl) rfl ?_
              rintro v h6 ⟨rfl, hs6, sm6⟩
              refine zb_go (zg_iinc 1 (by decide) rfl (by decide)) rfl ?_
              refine zb_end (zg_goto (tgt := 42) (by decide) ?_) rfl
              rw [nI_1]
              exact ih (m + 1) (pSk f len e) _ P2 tob2 _ _ (by omega) (pSk_le hel) hs6 ht5 (hP5.sameS hq5 sm6) ok2 ((hsm.trans sm5).trans sm6.two) he
  -- the beginning: nothing told
  have lt : ∀ j k h0 to, k + j = 5 → isScript h0 (nI len) 0 (-1) tx nu to → (∀ i, i < k → to i = 0) → zSame2 q h h0 → isPar h0 q P → zGo K l 7 mX4_read 12 [(0, .ref 1), (1, .ref q), (2, .int (nI k))] [] 59 h0 0 0 Q := by
    intro j
    induction j with
    | zero =>
      intro k h0 to hk hs0 ht hsm hP
      obtain ⟨g1, g2, g3, g4⟩ := id hs0
      have e1 := hP.1
      refine kX4_read_12 ?_
      refine zb_go (zg_iload_n rfl) rfl ?_
      refine zb_go (zg_iconst 5 (by decide)) rfl ?_
      refine zb_br (zg_icmp_ge (tgt := 30) (by decide)) rfl (fun c0 => ?_) (fun c0 => ?_)
      · refine kX4_read_30 ?_
        refine zb_go (zg_aload_n rfl) rfl ?_
        refine zb_callvx (r_X2_empty hP hqn) lX4_33 (by repeat (first | assumption | exact z_up_self _ _ _ | refine (z_up_ne (by first | decide | omega)).trans ?_)) rfl rfl (by first | assumption | decide | omega) (by decide) rfl (Nat.le_of_ble_eq_true rfl) rfl ?_
        rintro v h5 ⟨rfl, hP5, sm5⟩
        have hs5 := hs0.sameP hq5 sm5
        have k1 := hs5.1
        have hs5' : isScript h5 (nI len) (nI 0) (-1) tx nu to := hs5
        refine zb_go (zg_iconst 0 (by decide)) rfl ?_
        refine zb_go (zg_istore_n (by decide)) rfl ?_
        refine zb_go (zg_aload_n rfl) rfl ?_
        refine zb_callvx (r_X4_skipBlanks (f := f) hs5' hl (Nat.zero_le _) hf) lX4_38 (by repeat (first | assumption | exact z_up_self _ _ _ | refine (z_up_ne (by first | decide | omega)).trans ?_)) rfl rfl (by first | assumption | decide | omega) (by decide) rfl (Nat.le_of_ble_eq_true rfl) rfl ?_
        rintro v h6 ⟨rfl, hs6, sm6⟩
        refine zb_go (zg_iconst 0 (by decide)) rfl ?_
        refine zb_go (zg_istore_n (by decide)) rfl ?_
        refine zb_out ?_
        exact lp 200 0 (pSk f len 0) _ zP0 (fun _ => false) _ _ (by decide) (pSk_le (Nat.zero_le _)) hs6 (fun k hk => ht k (by omega)) (hP5.zero.sameS hq5 sm6) okP_0 ((hsm.trans sm5.twoP).trans sm6.two) rfl
      · exact absurd (nI_le (a := 5) (by omega) (by omega)) c0
    | succ j ih =>
      intro k h0 to hk hs0 ht hsm hP
      obtain ⟨g1, g2, g3, g4⟩ := id hs0
      refine kX4_read_12 ?_
      refine zb_go (zg_iload_n rfl) rfl ?_
      refine zb_go (zg_iconst 5 (by decide)) rfl ?_
      refine zb_br (zg_icmp_ge (tgt := 30) (by decide)) rfl (fun c0 => ?_) (fun c0 => ?_)
      · exact absurd ((nI_leI (a := 5) (by decide) (by omega)).mp c0) (by omega)
      · refine zb_go (zg_aload_n rfl) rfl ?_
        refine zb_go (zg_getfield fX4_29 (by first | assumption | decide | omega) (by repeat (first | assumption | exact z_up_self _ _ _ | refine (z_up_ne (by first | decide | omega)).trans ?_)) (by rfl)) rfl ?_
        refine zb_go (zg_iload_n rfl) rfl ?_
        refine zb_go (zg_iconst 0 (by decide)) rfl ?_
        refine zb_go (zi_zastore (y := 0) (by first | assumption | decide | omega) (by repeat (first | assumption | exact z_up_self _ _ _ | refine (z_up_ne (by first | decide | omega)).trans ?_)) (zIx.nI (show k < 5 by omega) (by decide)) (by decide)) rfl ?_
        refine zb_go (zg_iinc 1 (by decide) rfl (by decide)) rfl ?_
        refine zb_end (zg_goto (tgt := 12) (by decide) ?_) rfl
        rw [nI_1]
        refine ih (k + 1) _ (upd to k 0) (by omega) ⟨(z_up_ne (by decide)).trans g1, (z_up_ne (by decide)).trans g2, (z_up_ne (by decide)).trans g3, z_up_self _ _ _⟩ (fun i hi => ?_) (hsm.in (Or.inl (by omega))) (hP.sameS hq5 (zSame.rf.up (by omega) (by omega)))
        by_cases z : i = k
        · rw [z, pk_us]
        · rw [pk_un z]; exact ht i (by omega)
  refine kX4_read_0 ?_
  refine zb_go (zg_aload_n rfl) rfl ?_
  refine zb_go (zg_iconst 0 (by decide)) rfl ?_
  refine zb_go (zg_putfield fX4_19 (by first | assumption | decide | omega) (by repeat (first | assumption | exact z_up_self _ _ _ | refine (z_up_ne (by first | decide | omega)).trans ?_)) (by exact Nat.le_of_ble_eq_true rfl) (by rfl) (by rfl) (by first | exact Or.inl rfl | exact Or.inr ⟨rfl, rfl⟩)) rfl ?_
  refine zb_go (zg_aload_n rfl) rfl ?_
  refine zb_go (zg_iconst (-1) (by decide)) rfl ?_
  refine zb_go (zg_putfield fX4_22 (by first | assumption | decide | omega) (by repeat (first | assumption | exact z_up_self _ _ _ | refine (z_up_ne (by first | decide | omega)).trans ?_)) (by exact Nat.le_of_ble_eq_true rfl) (by rfl) (by rfl) (by first | exact Or.inl rfl | exact Or.inr ⟨rfl, rfl⟩)) rfl ?_
  refine zb_go (zg_iconst 0 (by decide)) rfl ?_
  refine zb_go (zg_istore_n (by decide)) rfl ?_
  refine zb_out ?_
  exact lt 5 0 _ to (by decide) ⟨z_up_self _ _ _, (z_up_ne (by decide)).trans ((z_up_ne (by decide)).trans h2), (z_up_ne (by decide)).trans ((z_up_ne (by decide)).trans h3), (z_up_ne (by decide)).trans ((z_up_ne (by decide)).trans h4)⟩ (fun i hi => absurd hi (Nat.not_lt_zero _)) ((zSame2.rf.in (Or.inl (by omega))).in (Or.inl (by omega))) ((hq.sameS hq5 (zSame.rf.up (by omega) (by omega))).sameS hq5 (zSame.rf.up (by omega) (by omega)))
end
