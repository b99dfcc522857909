/-! NIGHTS (13): the needed; walks -/
theorem zbut_lt (P : zP) (s : Nat) : zdif (2 ^ pR P - 1) s < 2 ^ pR P := Nat.lt_pow_two_of_testBit _ (fun i hi => by
  rw [zdif_bit, Nat.testBit_two_pow_sub_one, decide_eq_false (by omega), Bool.false_and])
section
variable {K : zK} {l : Launch} {n p q r g f am tn tw F wo : Nat} {h : zH} {x y z : Int32} {P : zP} {fe ev mi : Int32}
theorem r_X1_ringsInFirst (hD : nDone h P tw fe ev mi) (hr : r < 6) : zRex K l 2 mX1_ringsInFirst [.ref 22, .int (nI r)] 59 h (fun v h' => h' = h ∧ zIf (∃ g, g < 4 ∧ nBell P tw r g ≠ 0) v) := by
  refine zRex.of (by decide) (Nat.le_of_ble_eq_true rfl) (fun Q hQ => ?_)
  obtain ⟨am, tn, co, fo, hc⟩ := hD.cell
  have lp : ∀ g, g ≤ 4 → (∀ k, k < g → nBell P tw r k = 0) → zGo K l 2 mX1_ringsInFirst 2 [(0, .ref 22), (1, .int (nI r)), (2, .int (nI g))] [] 59 h 0 0 Q := by
    refine z_down 4 (fun g hg ih hno => ?_)
    refine kX1_ringsInFirst_2 ?_
    refine zb_go (zg_iload_n rfl) rfl ?_
    refine zb_go (zg_iconst 4 (by decide)) rfl ?_
    refine zb_br (zg_icmp_ge (tgt := 26) (by decide)) rfl (fun c0 => ?_) (fun c0 => ?_)
    · have e : g = 4 := by
        have := (nI_leI (a := 4) (b := g) (by decide) (by omega)).mp c0
        omega
      subst e
      refine kX1_ringsInFirst_26 ?_
      refine zb_go (zg_iconst 0 (by decide)) rfl ?_
      refine zb_end (zg_ireturn rfl (by rfl) ?_) rfl
      exact hQ _ _ ⟨rfl, Or.inr ⟨fun ⟨k, hk, e⟩ => e (hno k hk), rfl⟩⟩
    · have hg4 : g < 4 := Nat.not_le.mp (fun q => c0 (nI_le q (by omega)))
      have hb := nBell_lt P tw r g
      refine zb_go (zg_aload_n rfl) rfl ?_
      refine zb_go (zg_iload_n rfl) rfl ?_
      refine zb_go (zg_iload_n rfl) rfl ?_
      refine zb_callv (r_X1_firstBell hD hr hg4) lX1_117 (by repeat (first | assumption | exact z_up_self _ _ _ | refine (z_up_ne (by first | decide | omega)).trans ?_)) rfl rfl (by first | decide | assumption | omega) (by first | decide | omega) rfl (Nat.le_of_ble_eq_true rfl) rfl ?_
      refine zb_go (zg_bipush (-9) (by decide)) rfl ?_
      refine zb_br (zg_icmp_eq (tgt := 20) (by decide)) rfl (fun c1 => ?_) (fun c1 => ?_)
      · have e : nBell P tw r g = 0 := by
          by_cases q : nBell P tw r g = 0
          · exact q
          · rw [if_neg q] at c1
            exact absurd c1 (nI_ne9 (by omega))
        refine kX1_ringsInFirst_20 ?_
        refine zb_go (zg_iinc 1 (by decide) rfl (by decide)) rfl ?_
        refine zb_end (zg_goto (tgt := 2) (by decide) ?_) rfl
        rw [nI_1]
        refine ih hg4 (fun k hk => ?_)
        rcases Nat.lt_or_ge k g with q | q
        · exact hno k q
        · rw [show k = g by omega]; exact e
      · have e : nBell P tw r g ≠ 0 := fun q => c1 (if_pos q)
        refine zb_go (zg_iconst 1 (by decide)) rfl ?_
        refine zb_end (zg_ireturn rfl (by rfl) ?_) rfl
        exact hQ _ _ ⟨rfl, Or.inl ⟨⟨g, hg4, e⟩, rfl⟩⟩
  refine kX1_ringsInFirst_0 ?_
  refine zb_go (zg_iconst 0 (by decide)) rfl ?_
  refine zb_go (zg_istore_n (by decide)) rfl ?_
  refine zb_out ?_
  exact lp 0 (Nat.zero_le _) (fun k hk => absurd hk (Nat.not_lt_zero _))
theorem r_X1_missedRingers (hD : nDone h P tw fe ev mi) (ok : okP P) (htw : tw ≤ 60) (hmi : mi = -1 ∨ mi = nI (nNeed P)) : zRex K l 8 mX1_missedRingers [.ref 22] 59 h (fun v h' => v = some (.int (nI (nNeed P))) ∧ nDone h' P tw fe ev (nI (nNeed P)) ∧ zSame 22 27 h h') := by
  refine zRex.of (by decide) (Nat.le_of_ble_eq_true rfl) (fun Q hQ => ?_)
  obtain ⟨am, tn, co, fo, hc⟩ := hD.cell
  have ht4 := ok.2.2.2.1.2
  have hp6 := ok.2.1
  have hp2 : 2 ^ pR P ≤ 64 := Nat.le_trans (Nat.pow_le_pow_right (by decide) ok.2.1) (by decide)
  have hp1 : 1 ≤ 2 ^ pR P := Nat.one_le_two_pow
  have fin : ∀ h0 z, nDone h0 P tw fe ev (nI (nNeed P)) → zSame 22 27 h h0 → zGo K l 8 mX1_missedRingers 70 ([(0, .ref 22)] ++ z) [] 59 h0 0 0 Q := by
    intro h0 z hD0 hs
    obtain ⟨am, tn, co, fo, hc⟩ := hD0.cell
    refine kX1_missedRingers_70 ?_
    refine zb_go (zg_aload_n rfl) rfl ?_
    refine zb_go (zg_getfield fX1_35 (by first | decide | assumption | omega) (by repeat (first | assumption | exact z_up_self _ _ _ | refine (z_up_ne (by first | decide | omega)).trans ?_)) (by rfl)) rfl ?_
    refine zb_end (zg_ireturn rfl (by rfl) ?_) rfl
    exact hQ _ _ ⟨rfl, hD0, hs⟩
  have lp : ∀ r, r ≤ pR P → ∀ h0, nDone h0 P tw fe ev (nI (zbits (fun r => decide (nMost P (1 <<< r) < nMost P 0)) r)) → zSame 22 27 h h0 → zGo K l 8 mX1_missedRingers 15 [(0, .ref 22), (1, .int (nI r))] [] 59 h0 0 0 Q := by
    refine z_down (pR P) (fun r hr ih h0 hD0 hs => ?_)
    obtain ⟨am, tn, co, fo, hc⟩ := hD0.cell
    have hD0' := hD0
    obtain ⟨sets, sin, pr, lw, am0, tn0, co0, fo0, pi, hN, hT⟩ := hD0'
    refine kX1_missedRingers_15 ?_
    refine zb_go (zg_iload_n rfl) rfl ?_
    refine zb_go (zg_aload_n rfl) rfl ?_
    refine zb_go (zg_getfield fX1_15 (by first | decide | assumption | omega) (by repeat (first | assumption | exact z_up_self _ _ _ | refine (z_up_ne (by first | decide | omega)).trans ?_)) (by rfl)) rfl ?_
    refine zb_br (zg_icmp_ge (tgt := 70) (by decide)) rfl (fun c0 => ?_) (fun c0 => ?_)
    · have e : r = pR P := by
        have := (nI_leI (a := pR P) (b := r) (by omega) (by omega)).mp c0
        omega
      subst e
      exact fin h0 [(1, .int (nI (pR P)))] hD0 hs
    · have hrp : r < pR P := Nat.not_le.mp (fun q => c0 (nI_le q (by omega)))
      have not : ∀ h1, nDone h1 P tw fe ev (nI (zbits (fun r => decide (nMost P (1 <<< r) < nMost P 0)) r)) → zSame 22 27 h h1 → ¬ nMost P (1 <<< r) < nMost P 0 → zGo K l 8 mX1_missedRingers 64 [(0, .ref 22), (1, .int (nI r))] [] 59 h1 0 0 Q := by
        intro h1 hD1 hs1 hn
        refine kX1_missedRingers_64 ?_
        refine zb_go (zg_iinc 1 (by decide) rfl (by decide)) rfl ?_
        refine zb_end (zg_goto (tgt := 15) (by decide) ?_) rfl
        rw [nI_1]
        have eq := ih hrp h1
        rw [zbits, decide_eq_false hn] at eq
        rw [if_neg (by decide), Nat.or_zero] at eq
        exact eq hD1 hs1
      refine zb_go (zg_aload_n rfl) rfl ?_
      refine zb_go (zg_iload_n rfl) rfl ?_
      refine zb_callvx (r_X1_ringsInFirst hD0 (show r < 6 by omega)) lX1_114 (by repeat (first | assumption | exact z_up_self _ _ _ | refine (z_up_ne (by first | decide | omega)).trans ?_)) rfl rfl (by first | decide | assumption | omega) (by first | decide | omega) rfl (Nat.le_of_ble_eq_true rfl) rfl ?_
      rintro v h1 ⟨rfl, ⟨hp, rfl⟩ | ⟨hp, rfl⟩⟩
      · refine zb_br (zg_if_eq (tgt := 64) (by decide)) rfl (fun c1 => ?_) (fun c1 => ?_)
        · exact absurd c1 (by decide)
        · refine zb_go (zg_aload_n rfl) rfl ?_
          refine zb_go (zg_aload_n rfl) rfl ?_
          refine zb_callv (r_X1_everyone hN rfl ok) lX1_84 (by repeat (first | assumption | exact z_up_self _ _ _ | refine (z_up_ne (by first | decide | omega)).trans ?_)) rfl rfl (by first | decide | assumption | omega) (by first | decide | omega) rfl (Nat.le_of_ble_eq_true rfl) rfl ?_
          refine zb_go (zg_iconst 1 (by decide)) rfl ?_
          refine zb_go (zg_iload_n rfl) rfl ?_
          refine zb_go zg_ishl rfl ?_
          refine zb_go (zg_iconst (-1) (by decide)) rfl ?_
          refine zb_go zg_ixor rfl ?_
          rw [show (1 : Int32) <<< (nI r &&& 31) = nI (1 <<< r) from z_shl (a := 1) (by omega)]
          refine zb_go zg_iand rfl ?_
          rw [z_andn]
          refine zb_go (zg_aload_n rfl) rfl ?_
          refine zb_go (zg_getfield fX1_19 (by first | decide | assumption | omega) (by repeat (first | assumption | exact z_up_self _ _ _ | refine (z_up_ne (by first | decide | omega)).trans ?_)) (by rfl)) rfl ?_
          refine zb_callvx (r_X1_isEnoughD hD0 ok htw (show zdif (2 ^ pR P - 1) (1 <<< r) < 64 from Nat.lt_of_lt_of_le (zbut_lt P (1 <<< r)) hp2) (nAm_but P (1 <<< r)) ht4) lX1_110 (by repeat (first | assumption | exact z_up_self _ _ _ | refine (z_up_ne (by first | decide | omega)).trans ?_)) rfl rfl (by first | decide | assumption | omega) (by first | decide | omega) rfl (Nat.le_of_ble_eq_true rfl) rfl ?_
          rintro v h2 ⟨⟨hp2, rfl⟩ | ⟨hp2, rfl⟩, hD2, hs2⟩
          · refine zb_br (zg_if_ne (tgt := 64) (by decide)) rfl (fun c2 => ?_) (fun c2 => ?_)
            · exact not h2 hD2 (hs.trans hs2) (nCan_need.mp hp2)
            · exact absurd c2 (by decide)
          · obtain ⟨am, tn, co, fo, hc2⟩ := hD2.cell
            have hne : nMost P (1 <<< r) < nMost P 0 := Decidable.byContradiction (fun w => hp2 (nCan_need.mpr w))
            refine zb_br (zg_if_ne (tgt := 64) (by decide)) rfl (fun c2 => ?_) (fun c2 => ?_)
            · exact absurd rfl c2
            · refine zb_go (zg_aload_n rfl) rfl ?_
              refine zb_go (zg_dup rfl) rfl ?_
              refine zb_go (zg_getfield fX1_35 (by first | decide | assumption | omega) (by repeat (first | assumption | exact z_up_self _ _ _ | refine (z_up_ne (by first | decide | omega)).trans ?_)) (by rfl)) rfl ?_
              refine zb_go (zg_iconst 1 (by decide)) rfl ?_
              refine zb_go (zg_iload_n rfl) rfl ?_
              refine zb_go zg_ishl rfl ?_
              rw [show (1 : Int32) = nI 1 from rfl, z_shl (by omega)]
              refine zb_go zg_ior rfl ?_
              rw [z_or]
              refine zb_go (zg_putfield fX1_35 (by first | decide | assumption | omega) (by repeat (first | assumption | exact z_up_self _ _ _ | refine (z_up_ne (by first | decide | omega)).trans ?_)) (by exact Nat.le_of_ble_eq_true rfl) (by rfl) (by rfl) (by first | exact Or.inl rfl | exact Or.inr ⟨rfl, rfl⟩)) rfl ?_
              refine zb_out ?_
              refine kX1_missedRingers_64 ?_
              refine zb_go (zg_iinc 1 (by decide) rfl (by decide)) rfl ?_
              refine zb_end (zg_goto (tgt := 15) (by decide) ?_) rfl
              rw [nI_1]
              have hn : zbits (fun r => decide (nMost P (1 <<< r) < nMost P 0)) r ||| 1 <<< r = zbits (fun r => decide (nMost P (1 <<< r) < nMost P 0)) (r + 1) := by
                rw [zbits, decide_eq_true hne, if_pos rfl]
              rw [hn]
              exact ih hrp _ (hD2.know hc2 _ _ _) ((hs.trans hs2).up (by omega) (by omega))
      · refine zb_br (zg_if_eq (tgt := 64) (by decide)) rfl (fun c1 => ?_) (fun c1 => ?_)
        · exact not h1 hD0 hs (nNeed_not ok htw (by omega) (fun g hg => Decidable.byContradiction (fun w => hp ⟨g, hg, w⟩)))
        · exact absurd rfl c1
  refine kX1_missedRingers_0 ?_
  refine zb_go (zg_aload_n rfl) rfl ?_
  refine zb_go (zg_getfield fX1_35 (by first | decide | assumption | omega) (by repeat (first | assumption | exact z_up_self _ _ _ | refine (z_up_ne (by first | decide | omega)).trans ?_)) (by rfl)) rfl ?_
  refine zb_go (zg_iconst (-1) (by decide)) rfl ?_
  refine zb_br (zg_icmp_ne (tgt := 70) (by decide)) rfl (fun c0 => ?_) (fun c0 => ?_)
  · rcases hmi with e | e
    · exact absurd e c0
    · subst e
      exact fin h [] hD zSame.rf
  · refine zb_go (zg_aload_n rfl) rfl ?_
    refine zb_go (zg_iconst 0 (by decide)) rfl ?_
    refine zb_go (zg_putfield fX1_35 (by first | decide | assumption | omega) (by repeat (first | assumption | exact z_up_self _ _ _ | refine (z_up_ne (by first | decide | omega)).trans ?_)) (by exact Nat.le_of_ble_eq_true rfl) (by rfl) (by rfl) (by first | exact Or.inl rfl | exact Or.inr ⟨rfl, rfl⟩)) rfl ?_
    refine zb_go (zg_iconst 0 (by decide)) rfl ?_
    refine zb_go (zg_istore_n (by decide)) rfl ?_
    refine zb_out ?_
    exact lp 0 (Nat.zero_le _) _ (hD.know hc _ _ _) (zSame.rf.up (by omega) (by omega))
theorem r_X1_walkOf {s : Nat} (hP : isPar h p P) (hp : p + 5 < n) (ok : okP P) (htw : tw ≤ 60) (hs : s < 64) : zRet K l 2 mX1_walkOf [.ref p, .int (nI tw), .int (nI s)] n h (some (.int (nI (pWalk P tw s)))) h := by
  refine zRet.of (by decide) (Nat.le_of_ble_eq_true rfl) (fun Q hQ => ?_)
  have h1 := hP.1
  have hp6 := ok.2.1
  have lp : ∀ r, r ≤ pR P → zGo K l 2 mX1_walkOf 5 [(0, .ref p), (1, .int (nI tw)), (2, .int (nI s)), (3, .int (nI (zsum (fun r => if s.testBit r then 2 * zdist (pHo P r) tw else 0) r))), (4, .int (nI r))] [] n h 0 0 Q := by
    refine z_down (pR P) (fun r hr ih => ?_)
    refine kX1_walkOf_5 ?_
    refine zb_go (zg_iload rfl) rfl ?_
    refine zb_go (zg_aload_n rfl) rfl ?_
    refine zb_go (zg_getfield fX1_71 (by first | decide | assumption | omega) (by repeat (first | assumption | exact z_up_self _ _ _ | refine (z_up_ne (by first | decide | omega)).trans ?_)) (by rfl)) rfl ?_
    refine zb_br (zg_icmp_ge (tgt := 41) (by decide)) rfl (fun c0 => ?_) (fun c0 => ?_)
    · have e : r = pR P := by
        have := (nI_leI (a := pR P) (b := r) (by omega) (by omega)).mp c0
        omega
      subst e
      refine kX1_walkOf_41 ?_
      refine zb_go (zg_iload_n rfl) rfl ?_
      refine zb_end (zg_ireturn rfl (by rfl) ?_) rfl
      exact hQ
    · have hrp : r < pR P := Nat.not_le.mp (fun q => c0 (nI_le q (by omega)))
      have ebit := z_bit (a := s) (k := r) (by omega) (by omega)
      refine zb_go (zg_iload_n rfl) rfl ?_
      refine zb_go (zg_iload rfl) rfl ?_
      refine zb_go zg_ishr rfl ?_
      refine zb_go (zg_iconst 1 (by decide)) rfl ?_
      refine zb_go zg_iand rfl ?_
      refine zb_br (zg_if_eq (tgt := 35) (by decide)) rfl (fun c1 => ?_) (fun c1 => ?_)
      · have hb : s.testBit r = false := by
          cases e : s.testBit r with
          | false => rfl
          | true => rw [e] at ebit; exact absurd (ebit.symm.trans c1) (by decide)
        refine kX1_walkOf_35 ?_
        refine zb_go (zg_iinc 1 (by decide) rfl (by decide)) rfl ?_
        refine zb_end (zg_goto (tgt := 5) (by decide) ?_) rfl
        rw [nI_1]
        have eq := ih hrp
        rw [zsum, hb] at eq
        exact eq
      · have hb : s.testBit r = true := by
          cases e : s.testBit r with
          | true => rfl
          | false => rw [e] at ebit; exact absurd ebit c1
        refine zb_go (zg_iload_n rfl) rfl ?_
        refine zb_go (zg_iconst 2 (by decide)) rfl ?_
        refine zb_go (zg_aload_n rfl) rfl ?_
        refine zb_go (zg_iload rfl) rfl ?_
        refine zb_go (zg_iload_n rfl) rfl ?_
        refine zb_callv (r_X2_way hP hp ok hrp (show tw < 2 ^ 30 by omega)) lX1_142 (by repeat (first | assumption | exact z_up_self _ _ _ | refine (z_up_ne (by first | decide | omega)).trans ?_)) rfl rfl (by first | decide | assumption | omega) (by first | decide | omega) rfl (Nat.le_of_ble_eq_true rfl) rfl ?_
        rw [show (2 : Int32) = nI 2 from rfl]
        refine zb_go zg_imul rfl ?_
        refine zb_go zg_iadd rfl ?_
        rw [pk_mul, nI_add]
        refine zb_go (zg_istore_n (by decide)) rfl ?_
        refine zb_out ?_
        refine kX1_walkOf_35 ?_
        refine zb_go (zg_iinc 1 (by decide) rfl (by decide)) rfl ?_
        refine zb_end (zg_goto (tgt := 5) (by decide) ?_) rfl
        rw [nI_1]
        have eq := ih hrp
        rw [zsum, hb] at eq
        exact eq
  refine kX1_walkOf_0 ?_
  refine zb_go (zg_iconst 0 (by decide)) rfl ?_
  refine zb_go (zg_istore_n (by decide)) rfl ?_
  refine zb_go (zg_iconst 0 (by decide)) rfl ?_
  refine zb_go (zg_istore (by decide)) rfl ?_
  refine zb_out ?_
  exact lp 0 (Nat.zero_le _)
end
