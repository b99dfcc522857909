/-! NIGHTS (12): what the nights answer, once they are settled -/
def nDone (h : zH) (P : zP) (tw : Nat) (fe ev mi : Int32) : Prop := ∃ sets sin pr lw am tn co fo pi, isNights h (1, nI (pR P), nI (pTi P), nI (pRe P), lN (nBest P tw), fe, ev, mi, sets, sin, pr, lw, am, tn, co, fo, pi) ∧ nTab P tw sets sin pr lw
theorem nDone.same {h h1 : zH} {P : zP} {tw lo hi : Nat} {fe ev mi : Int32} (hD : nDone h P tw fe ev mi) (s : zSame lo hi h h1) (hp : 27 < lo ∨ hi < 22) : nDone h1 P tw fe ev mi := by
  obtain ⟨sets, sin, pr, lw, am, tn, co, fo, pi, hN, hT⟩ := hD
  exact ⟨sets, sin, pr, lw, am, tn, co, fo, pi, hN.same s hp, hT⟩
section
variable {K : zK} {l : Launch} {n p q r g f am tn tw F wo : Nat} {h : zH} {x y z : Int32} {P : zP} {fe ev mi : Int32}
theorem nDone.cell (hD : nDone h P tw fe ev mi) : ∃ am tn co fo, h 22 = .inr (0, [.int 1, .int (nI (pR P)), .int (nI (pTi P)), .int (nI (pRe P)), .long (lN (nBest P tw)), .int fe, .int ev, .int mi, .ref 23, .ref 24, .ref 25, .ref 26, .int am, .int tn, .long co, .long fo, .ref 27]) := by
  obtain ⟨sets, sin, pr, lw, am, tn, co, fo, pi, hN, hT⟩ := hD
  exact ⟨am, tn, co, fo, hN.1⟩
/-- another number known -/
theorem nDone.know {am tn : Int32} {co fo : Int64} (hD : nDone h P tw fe ev mi) (hc : h 22 = .inr (0, [.int 1, .int (nI (pR P)), .int (nI (pTi P)), .int (nI (pRe P)), .long (lN (nBest P tw)), .int fe, .int ev, .int mi, .ref 23, .ref 24, .ref 25, .ref 26, .int am, .int tn, .long co, .long fo, .ref 27])) (fe' ev' mi' : Int32) : nDone (z_up h 22 (.inr (0, [.int 1, .int (nI (pR P)), .int (nI (pTi P)), .int (nI (pRe P)), .long (lN (nBest P tw)), .int fe', .int ev', .int mi', .ref 23, .ref 24, .ref 25, .ref 26, .int am, .int tn, .long co, .long fo, .ref 27]))) P tw fe' ev' mi' := by
  obtain ⟨sets, sin, pr, lw, am0, tn0, co0, fo0, pi, hN, hT⟩ := hD
  exact ⟨sets, sin, pr, lw, am, tn, co, fo, pi, ⟨z_up_self _ _ _, (z_up_ne (by decide)).trans hN.2.1, (z_up_ne (by decide)).trans hN.2.2.1, (z_up_ne (by decide)).trans hN.2.2.2.1, (z_up_ne (by decide)).trans hN.2.2.2.2.1, (z_up_ne (by decide)).trans hN.2.2.2.2.2⟩, hT⟩
theorem r_X1_isEnoughD (hD : nDone h P tw fe ev mi) (ok : okP P) (htw : tw ≤ 60) (ham : am < 64) (hwo : nAm P wo am) (htn : tn ≤ 4) : zRex K l 7 mX1_isEnough [.ref 22, .int (nI am), .int (nI tn)] 59 h (fun v h' => zIf (nCan P wo tn) v ∧ nDone h' P tw fe ev mi ∧ zSame 22 27 h h') := by
  obtain ⟨sets, sin, pr, lw, am0, tn0, co0, fo0, pi, hN, hT⟩ := hD
  refine zRex.of (by decide) (Nat.le_of_ble_eq_true rfl) (fun Q hQ => ?_)
  obtain ⟨h1, h2, h3, h4, h5, h6⟩ := id hN
  have eA := nBest_short (tw := tw) ok htw
  have hA : zSh (nBest P tw) + 1 < 2 ^ 63 := by
    rw [eA]
    have : (pAll P - nMost P 0) * 2 ^ 59 ≤ 12 * 2 ^ 59 := Nat.mul_le_mul_right _ (Nat.le_trans (Nat.sub_le _ _) (pAll_le ok))
    exact Nat.lt_of_le_of_lt (Nat.add_le_add_right this 1) (by decide)
  refine kX1_isEnough_0 ?_
  refine zb_go (zg_aload_n rfl) rfl ?_
  refine zb_go (zg_getfield fX1_25 (by first | assumption | decide | omega) (by repeat (first | assumption | exact z_up_self _ _ _ | refine (z_up_ne (by first | decide | omega)).trans ?_)) (by rfl)) rfl ?_
  refine zb_go (zg_ldc2_w cX1_120) rfl ?_
  refine zb_go zg_land rfl ?_
  rw [lL_short (nBest_lt P tw)]
  refine zb_go (zg_lstore_n (by decide)) rfl ?_
  refine zb_go (zg_aload_n rfl) rfl ?_
  refine zb_go (zg_ldc2_w cX1_120) rfl ?_
  refine zb_go (zg_iload_n rfl) rfl ?_
  refine zb_go (zg_iload_n rfl) rfl ?_
  refine zb_go (zg_lload_n rfl) rfl ?_
  refine zb_go (zg_lconst 1 (by decide)) rfl ?_
  refine zb_go zg_ladd rfl ?_
  rw [lN_1]
  refine zb_callvx (r_X1_search hN ok htw hT nMask_short ham htn hA) lX1_88 (by repeat (first | assumption | exact z_up_self _ _ _ | refine (z_up_ne (by first | decide | omega)).trans ?_)) rfl rfl (by first | assumption | decide | omega) (by first | decide | omega) rfl (Nat.le_of_ble_eq_true rfl) rfl ?_
  rintro v h' ⟨F', pi', rfl, hF', hN', hM, s⟩
  have key := zIf_le (nMin_can ok htw hwo eA hM)
  refine zb_go (zg_lload_n rfl) rfl ?_
  refine zb_go zg_lcmp rfl ?_
  refine zb_br (zg_if_gt (tgt := 30) (by decide)) rfl (fun c0 => ?_) (fun c0 => ?_)
  · have c0 := (lg_cmp_gt _ _).mp c0
    have c0 := (lL_lt (Nat.lt_of_succ_lt hA) hF').mp c0
    rcases key with ⟨k1, -⟩ | ⟨-, k2⟩
    · exact absurd k1 (Nat.not_le.mpr c0)
    · refine kX1_isEnough_30 ?_
      refine zb_go (zg_iconst 0 (by decide)) rfl ?_
      refine zb_out ?_
      refine kX1_isEnough_31 ?_
      refine zb_end (zg_ireturn rfl (by rfl) ?_) rfl
      exact hQ _ _ ⟨Or.inr ⟨k2, rfl⟩, ⟨_, _, _, _, _, _, _, _, _, hN', hT⟩, s⟩
  · rcases key with ⟨-, k2⟩ | ⟨k1, -⟩
    · refine zb_go (zg_iconst 1 (by decide)) rfl ?_
      refine zb_end (zg_goto (tgt := 31) (by decide) ?_) rfl
      refine kX1_isEnough_31 ?_
      refine zb_end (zg_ireturn rfl (by rfl) ?_) rfl
      exact hQ _ _ ⟨Or.inl ⟨k2, rfl⟩, ⟨_, _, _, _, _, _, _, _, _, hN', hT⟩, s⟩
    · exact absurd ((lg_cmp_gt _ _).mpr ((lL_lt (Nat.lt_of_succ_lt hA) hF').mpr (Nat.not_le.mp k1))) c0
theorem r_X1_fewestShort (hD : nDone h P tw fe ev mi) : zRet K l 0 mX1_fewestShort [.ref 22] 59 h (some (.int (nI (nBest P tw / 2 ^ 59)))) h := by
  refine zRet.of (by decide) (Nat.le_of_ble_eq_true rfl) (fun Q hQ => ?_)
  obtain ⟨am, tn, co, fo, hc⟩ := hD.cell
  have e := lL_ushr (a := nBest P tw) (k := 59) (by decide) (nBest_lt P tw)
  refine kX1_fewestShort_0 ?_
  refine zb_go (zg_aload_n rfl) rfl ?_
  refine zb_go (zg_getfield fX1_25 (by first | assumption | decide | omega) (by repeat (first | assumption | exact z_up_self _ _ _ | refine (z_up_ne (by first | decide | omega)).trans ?_)) (by rfl)) rfl ?_
  refine zb_go (zg_bipush 59 (by decide)) rfl ?_
  refine zb_go zg_lushr rfl ?_
  rw [show (59 : Int32) = nI 59 from rfl, e]
  refine zb_go zg_l2i rfl ?_
  rw [lN_i]
  refine zb_end (zg_ireturn rfl (by rfl) ?_) rfl
  exact hQ
theorem r_X1_leastWalk (hD : nDone h P tw fe ev mi) : zRet K l 0 mX1_leastWalk [.ref 22] 59 h (some (.int (nI (nBest P tw / 2 ^ 48 % 2 ^ 11)))) h := by
  refine zRet.of (by decide) (Nat.le_of_ble_eq_true rfl) (fun Q hQ => ?_)
  obtain ⟨am, tn, co, fo, hc⟩ := hD.cell
  have e := lL_ushr (a := nBest P tw) (k := 48) (by decide) (nBest_lt P tw)
  refine kX1_leastWalk_0 ?_
  refine zb_go (zg_aload_n rfl) rfl ?_
  refine zb_go (zg_getfield fX1_25 (by first | assumption | decide | omega) (by repeat (first | assumption | exact z_up_self _ _ _ | refine (z_up_ne (by first | decide | omega)).trans ?_)) (by rfl)) rfl ?_
  refine zb_go (zg_bipush 48 (by decide)) rfl ?_
  refine zb_go zg_lushr rfl ?_
  rw [show (48 : Int32) = nI 48 from rfl, e]
  refine zb_go (zg_ldc2_w cX1_92) rfl ?_
  refine zb_go zg_land rfl ?_
  rw [lL_2047, lL_and, z_mod11]
  refine zb_go zg_l2i rfl ?_
  rw [lN_i]
  refine zb_end (zg_ireturn rfl (by rfl) ?_) rfl
  exact hQ
theorem nBell_lt (P : zP) (tw r g : Nat) : nBell P tw r g < 4 := Nat.mod_lt _ (by decide)
theorem r_X1_firstBell (hD : nDone h P tw fe ev mi) (hr : r < 6) (hg : g < 4) : zRet K l 1 mX1_firstBell [.ref 22, .int (nI r), .int (nI g)] 59 h (some (.int (if nBell P tw r g = 0 then -9 else nI (nBell P tw r g - 1)))) h := by
  refine zRet.of (by decide) (Nat.le_of_ble_eq_true rfl) (fun Q hQ => ?_)
  obtain ⟨am, tn, co, fo, hc⟩ := hD.cell
  have e := lL_ushr (a := nBest P tw) (k := 46 - 2 * (4 * r + g)) (by omega) (nBest_lt P tw)
  have hb := nBell_lt P tw r g
  refine kX1_firstBell_0 ?_
  refine zb_go (zg_aload_n rfl) rfl ?_
  refine zb_go (zg_getfield fX1_25 (by first | assumption | decide | omega) (by repeat (first | assumption | exact z_up_self _ _ _ | refine (z_up_ne (by first | decide | omega)).trans ?_)) (by rfl)) rfl ?_
  refine zb_go (zg_iload_n rfl) rfl ?_
  refine zb_go (zg_iload_n rfl) rfl ?_
  refine zb_calls (r_X1_shiftOf hr hg) lX1_94 rfl (by first | decide | omega) rfl (Nat.le_of_ble_eq_true rfl) rfl ?_
  refine zb_go zg_lushr rfl ?_
  rw [e]
  refine zb_go (zg_ldc2_w cX1_98) rfl ?_
  refine zb_go zg_land rfl ?_
  rw [lL_3, lL_and, z_mod3]
  refine zb_go zg_l2i rfl ?_
  rw [lN_i]
  have e4 : nI (nBest P tw / 2 ^ (46 - 2 * (4 * r + g)) % 4) = nI (nBell P tw r g) := rfl
  rw [e4]
  refine zb_go (zg_istore_n (by decide)) rfl ?_
  refine zb_go (zg_iload_n rfl) rfl ?_
  refine zb_br (zg_if_ne (tgt := 25) (by decide)) rfl (fun c0 => ?_) (fun c0 => ?_)
  · have c1 : nBell P tw r g ≠ 0 := fun z => c0 (by rw [z]; rfl)
    rw [if_neg c1] at hQ
    refine kX1_firstBell_25 ?_
    refine zb_go (zg_iload_n rfl) rfl ?_
    refine zb_go (zg_iconst 1 (by decide)) rfl ?_
    refine zb_go zg_isub rfl ?_
    rw [show (1 : Int32) = nI 1 from rfl, pk_sub (by omega)]
    refine zb_out ?_
    refine kX1_firstBell_28 ?_
    refine zb_end (zg_ireturn rfl (by rfl) ?_) rfl
    exact hQ
  · have c1 : nBell P tw r g = 0 := (nI_eq (by omega) (by decide)).mp c0
    rw [if_pos c1] at hQ
    refine zb_go (zg_bipush (-9) (by decide)) rfl ?_
    refine zb_end (zg_goto (tgt := 28) (by decide) ?_) rfl
    refine kX1_firstBell_28 ?_
    refine zb_end (zg_ireturn rfl (by rfl) ?_) rfl
    exact hQ
theorem r_X1_areEnough {k : Nat} (hD : nDone h P tw fe ev mi) (ok : okP P) (htw : tw ≤ 60) (hk : k ≤ 6) : zRex K l 8 mX1_areEnough [.ref 22, .int (nI k)] 59 h (fun v h' => zIf (nEno P k) v ∧ nDone h' P tw fe ev mi ∧ zSame 22 27 h h') := by
  refine zRex.of (by decide) (Nat.le_of_ble_eq_true rfl) (fun Q hQ => ?_)
  have hp2 : 2 ^ pR P ≤ 64 := Nat.le_trans (Nat.pow_le_pow_right (by decide) ok.2.1) (by decide)
  have hp1 : 1 ≤ 2 ^ pR P := Nat.one_le_two_pow
  have lp : ∀ s, s ≤ 2 ^ pR P → ∀ h0, nDone h0 P tw fe ev mi → zSame 22 27 h h0 → (∀ t, t < s → ¬ (zpop t = k ∧ nCan P (nBut P t) (pTi P))) → zGo K l 8 mX1_areEnough 2 [(0, .ref 22), (1, .int (nI k)), (2, .int (nI s))] [] 59 h0 0 0 Q := by
    refine z_down (2 ^ pR P) (fun s hs ih h0 hD0 hsm hno => ?_)
    obtain ⟨am, tn, co, fo, hc⟩ := hD0.cell
    have hD0' := hD0
    obtain ⟨sets, sin, pr, lw, am0, tn0, co0, fo0, pi, hN, hT⟩ := hD0'
    refine kX1_areEnough_2 ?_
    refine zb_go (zg_iload_n rfl) rfl ?_
    refine zb_go (zg_aload_n rfl) rfl ?_
    refine zb_callv (r_X1_everyone hN rfl ok) lX1_84 (by repeat (first | assumption | exact z_up_self _ _ _ | refine (z_up_ne (by first | decide | omega)).trans ?_)) rfl rfl (by first | assumption | decide | omega) (by first | decide | omega) rfl (Nat.le_of_ble_eq_true rfl) rfl ?_
    refine zb_br (zg_icmp_gt (tgt := 38) (by decide)) rfl (fun c0 => ?_) (fun c0 => ?_)
    · have e : s = 2 ^ pR P := by
        have := (nI_ltI (a := 2 ^ pR P - 1) (b := s) (by omega) (by omega)).mp c0
        omega
      subst e
      refine kX1_areEnough_38 ?_
      refine zb_go (zg_iconst 0 (by decide)) rfl ?_
      refine zb_end (zg_ireturn rfl (by rfl) ?_) rfl
      exact hQ _ _ ⟨Or.inr ⟨fun ⟨t, ht, h1, h2⟩ => hno t ht ⟨h1, h2⟩, rfl⟩, hD0, hsm⟩
    · have hs1 : s < 2 ^ pR P := by
        rcases Nat.lt_or_ge (2 ^ pR P - 1) s with q | q
        · exact absurd (nI_lt q (by omega)) c0
        · omega
      have nx : ∀ h1, nDone h1 P tw fe ev mi → zSame 22 27 h h1 → ¬ (zpop s = k ∧ nCan P (nBut P s) (pTi P)) → zGo K l 8 mX1_areEnough 32 [(0, .ref 22), (1, .int (nI k)), (2, .int (nI s))] [] 59 h1 0 0 Q := by
        intro h1 hD1 hs1' hn
        refine kX1_areEnough_32 ?_
        refine zb_go (zg_iinc 1 (by decide) rfl (by decide)) rfl ?_
        refine zb_end (zg_goto (tgt := 2) (by decide) ?_) rfl
        rw [nI_1]
        refine ih hs1 h1 hD1 hs1' (fun t ht => ?_)
        rcases Nat.lt_or_ge t s with q | q
        · exact hno t q
        · rw [show t = s by omega]; exact hn
      refine zb_go (zg_iload_n rfl) rfl ?_
      refine zb_calls (r_bitCount (show s < 64 by omega)) lX1_104 rfl (by first | decide | omega) rfl (Nat.le_of_ble_eq_true rfl) rfl ?_
      refine zb_go (zg_iload_n rfl) rfl ?_
      refine zb_br (zg_icmp_ne (tgt := 32) (by decide)) rfl (fun c1 => ?_) (fun c1 => ?_)
      · have c1 : zpop s ≠ k := fun z => c1 (by rw [z])
        exact nx h0 hD0 hsm (fun z => c1 z.1)
      · have c1 : zpop s = k := (nI_eq (by have := zpop_le s; omega) (by omega)).mp c1
        refine zb_go (zg_aload_n rfl) rfl ?_
        refine zb_go (zg_iload_n rfl) rfl ?_
        refine zb_go (zg_aload_n rfl) rfl ?_
        refine zb_go (zg_getfield fX1_19 (by first | assumption | decide | omega) (by repeat (first | assumption | exact z_up_self _ _ _ | refine (z_up_ne (by first | decide | omega)).trans ?_)) (by rfl)) rfl ?_
        refine zb_callvx (r_X1_isEnoughD hD0 ok htw (show s < 64 by omega) (nAm_set hs1) ok.2.2.2.1.2) lX1_110 (by repeat (first | assumption | exact z_up_self _ _ _ | refine (z_up_ne (by first | decide | omega)).trans ?_)) rfl rfl (by first | assumption | decide | omega) (by first | decide | omega) rfl (Nat.le_of_ble_eq_true rfl) rfl ?_
        rintro v h1 ⟨⟨hp, rfl⟩ | ⟨hp, rfl⟩, hD1, hs2⟩
        · refine zb_br (zg_if_eq (tgt := 32) (by decide)) rfl (fun c2 => ?_) (fun c2 => ?_)
          · exact absurd c2 (by decide)
          · refine zb_go (zg_iconst 1 (by decide)) rfl ?_
            refine zb_end (zg_ireturn rfl (by rfl) ?_) rfl
            exact hQ _ _ ⟨Or.inl ⟨⟨s, hs1, c1, hp⟩, rfl⟩, hD1, hsm.trans hs2⟩
        · refine zb_br (zg_if_eq (tgt := 32) (by decide)) rfl (fun c2 => ?_) (fun c2 => ?_)
          · exact nx h1 hD1 (hsm.trans hs2) (fun z => hp z.2)
          · exact absurd rfl c2
  refine kX1_areEnough_0 ?_
  refine zb_go (zg_iconst 0 (by decide)) rfl ?_
  refine zb_go (zg_istore_n (by decide)) rfl ?_
  refine zb_out ?_
  exact lp 0 (Nat.zero_le _) h hD zSame.rf (fun t ht => absurd ht (Nat.not_lt_zero _))
theorem r_X1_fewestRingers (hD : nDone h P tw fe ev mi) (ok : okP P) (htw : tw ≤ 60) (hfe : fe = -1 ∨ fe = nI (nFew P)) : zRex K l 9 mX1_fewestRingers [.ref 22] 59 h (fun v h' => v = some (.int (nI (nFew P))) ∧ nDone h' P tw (nI (nFew P)) ev mi ∧ zSame 22 27 h h') := by
  refine zRex.of (by decide) (Nat.le_of_ble_eq_true rfl) (fun Q hQ => ?_)
  obtain ⟨am, tn, co, fo, hc⟩ := hD.cell
  have hF6 := nFew_pR ok
  have hp6 := ok.2.1
  have fin : ∀ h0, nDone h0 P tw (nI (nFew P)) ev mi → zSame 22 27 h h0 → zGo K l 9 mX1_fewestRingers 48 [(0, .ref 22)] [] 59 h0 0 0 Q := by
    intro h0 hD0 hs
    obtain ⟨am, tn, co, fo, hc⟩ := hD0.cell
    refine kX1_fewestRingers_48 ?_
    refine zb_go (zg_aload_n rfl) rfl ?_
    refine zb_go (zg_getfield fX1_29 (by first | assumption | decide | omega) (by repeat (first | assumption | exact z_up_self _ _ _ | refine (z_up_ne (by first | decide | omega)).trans ?_)) (by rfl)) rfl ?_
    refine zb_end (zg_ireturn rfl (by rfl) ?_) rfl
    exact hQ _ _ ⟨rfl, hD0, hs⟩
  have lp : ∀ k, k ≤ nFew P → ∀ h0, nDone h0 P tw (nI k) ev mi → zSame 22 27 h h0 → zGo K l 9 mX1_fewestRingers 13 [(0, .ref 22)] [] 59 h0 0 0 Q := by
    refine z_down (nFew P) (fun k hk ih h0 hD0 hs => ?_)
    obtain ⟨am, tn, co, fo, hc⟩ := hD0.cell
    refine kX1_fewestRingers_13 ?_
    refine zb_go (zg_aload_n rfl) rfl ?_
    refine zb_go (zg_getfield fX1_29 (by first | assumption | decide | omega) (by repeat (first | assumption | exact z_up_self _ _ _ | refine (z_up_ne (by first | decide | omega)).trans ?_)) (by rfl)) rfl ?_
    refine zb_go (zg_aload_n rfl) rfl ?_
    refine zb_go (zg_getfield fX1_15 (by first | assumption | decide | omega) (by repeat (first | assumption | exact z_up_self _ _ _ | refine (z_up_ne (by first | decide | omega)).trans ?_)) (by rfl)) rfl ?_
    refine zb_br (zg_icmp_ge (tgt := 48) (by decide)) rfl (fun c0 => ?_) (fun c0 => ?_)
    · have e : k = nFew P := by
        have := (nI_leI (a := pR P) (b := k) (by omega) (by omega)).mp c0
        omega
      rw [e] at hD0
      exact fin h0 hD0 hs
    · have hkp : k < pR P := Nat.not_le.mp (fun q => c0 (nI_le q (by omega)))
      refine zb_go (zg_aload_n rfl) rfl ?_
      refine zb_go (zg_aload_n rfl) rfl ?_
      refine zb_go (zg_getfield fX1_29 (by first | assumption | decide | omega) (by repeat (first | assumption | exact z_up_self _ _ _ | refine (z_up_ne (by first | decide | omega)).trans ?_)) (by rfl)) rfl ?_
      refine zb_callvx (r_X1_areEnough hD0 ok htw (show k ≤ 6 by omega)) lX1_100 (by repeat (first | assumption | exact z_up_self _ _ _ | refine (z_up_ne (by first | decide | omega)).trans ?_)) rfl rfl (by first | assumption | decide | omega) (by first | decide | omega) rfl (Nat.le_of_ble_eq_true rfl) rfl ?_
      rintro v h1 ⟨⟨hp, rfl⟩ | ⟨hp, rfl⟩, hD1, hs1⟩
      · refine zb_br (zg_if_ne (tgt := 48) (by decide)) rfl (fun c1 => ?_) (fun c1 => ?_)
        · have e : k = nFew P := Nat.le_antisymm hk (nFew_le hp)
          rw [e] at hD1
          exact fin h1 hD1 (hs.trans hs1)
        · exact absurd c1 (by decide)
      · obtain ⟨am, tn, co, fo, hc1⟩ := hD1.cell
        refine zb_br (zg_if_ne (tgt := 48) (by decide)) rfl (fun c1 => ?_) (fun c1 => ?_)
        · exact absurd rfl c1
        · have hk2 : k < nFew P := by
            rcases Nat.lt_or_ge k (nFew P) with q | q
            · exact q
            · rw [show k = nFew P from Nat.le_antisymm hk q] at hp
              exact absurd (nFew_eno ok) hp
          refine zb_go (zg_aload_n rfl) rfl ?_
          refine zb_go (zg_dup rfl) rfl ?_
          refine zb_go (zg_getfield fX1_29 (by first | assumption | decide | omega) (by repeat (first | assumption | exact z_up_self _ _ _ | refine (z_up_ne (by first | decide | omega)).trans ?_)) (by rfl)) rfl ?_
          refine zb_go (zg_iconst 1 (by decide)) rfl ?_
          refine zb_go zg_iadd rfl ?_
          refine zb_go (zg_putfield fX1_29 (by first | assumption | decide | omega) (by repeat (first | assumption | exact z_up_self _ _ _ | refine (z_up_ne (by first | decide | omega)).trans ?_)) (by exact Nat.le_of_ble_eq_true rfl) (by rfl) (by rfl) (by first | exact Or.inl rfl | exact Or.inr ⟨rfl, rfl⟩)) rfl ?_
          refine zb_end (zg_goto (tgt := 13) (by decide) ?_) rfl
          rw [nI_1]
          exact ih hk2 _ (hD1.know hc1 _ _ _) ((hs.trans hs1).up (by omega) (by omega))
  refine kX1_fewestRingers_0 ?_
  refine zb_go (zg_aload_n rfl) rfl ?_
  refine zb_go (zg_getfield fX1_29 (by first | assumption | decide | omega) (by repeat (first | assumption | exact z_up_self _ _ _ | refine (z_up_ne (by first | decide | omega)).trans ?_)) (by rfl)) rfl ?_
  refine zb_go (zg_iconst (-1) (by decide)) rfl ?_
  refine zb_br (zg_icmp_ne (tgt := 48) (by decide)) rfl (fun c0 => ?_) (fun c0 => ?_)
  · rcases hfe with e | e
    · exact absurd e c0
    · subst e
      exact fin h hD zSame.rf
  · refine zb_go (zg_aload_n rfl) rfl ?_
    refine zb_go (zg_iconst 0 (by decide)) rfl ?_
    refine zb_go (zg_putfield fX1_29 (by first | assumption | decide | omega) (by repeat (first | assumption | exact z_up_self _ _ _ | refine (z_up_ne (by first | decide | omega)).trans ?_)) (by exact Nat.le_of_ble_eq_true rfl) (by rfl) (by rfl) (by first | exact Or.inl rfl | exact Or.inr ⟨rfl, rfl⟩)) rfl ?_
    refine zb_out ?_
    exact lp 0 (Nat.zero_le _) _ (hD.know hc _ _ _) (zSame.rf.up (by omega) (by omega))
theorem r_X1_mostEven (hD : nDone h P tw fe ev mi) (ok : okP P) (htw : tw ≤ 60) (hev : ev = -1 ∨ ev = nI (nEven P)) : zRex K l 8 mX1_mostEven [.ref 22] 59 h (fun v h' => v = some (.int (nI (nEven P))) ∧ nDone h' P tw fe (nI (nEven P)) mi ∧ zSame 22 27 h h') := by
  refine zRex.of (by decide) (Nat.le_of_ble_eq_true rfl) (fun Q hQ => ?_)
  obtain ⟨am, tn, co, fo, hc⟩ := hD.cell
  have ht4 := ok.2.2.2.1.2
  have hp6 := ok.2.1
  have hE := nEven_le ok
  have hp2 : 2 ^ pR P ≤ 64 := Nat.le_trans (Nat.pow_le_pow_right (by decide) ok.2.1) (by decide)
  have hp1 : 1 ≤ 2 ^ pR P := Nat.one_le_two_pow
  have fin : ∀ h0 z, nDone h0 P tw fe (nI (nEven P)) mi → zSame 22 27 h h0 → zGo K l 8 mX1_mostEven 50 ([(0, .ref 22)] ++ z) [] 59 h0 0 0 Q := by
    intro h0 z hD0 hs
    obtain ⟨am, tn, co, fo, hc⟩ := hD0.cell
    refine kX1_mostEven_50 ?_
    refine zb_go (zg_aload_n rfl) rfl ?_
    refine zb_go (zg_getfield fX1_32 (by first | assumption | decide | omega) (by repeat (first | assumption | exact z_up_self _ _ _ | refine (z_up_ne (by first | decide | omega)).trans ?_)) (by rfl)) rfl ?_
    refine zb_end (zg_ireturn rfl (by rfl) ?_) rfl
    exact hQ _ _ ⟨rfl, hD0, hs⟩
  have lp : ∀ t, t ≤ pTi P → nEven P ≤ t → ∀ h0, nDone h0 P tw fe (nI t) mi → zSame 22 27 h h0 → zGo K l 8 mX1_mostEven 23 [(0, .ref 22), (1, .int (nI t - 1))] [] 59 h0 0 0 Q := by
    intro t
    induction t with
    | zero =>
      intro ht hEt h0 hD0 hs
      have e : 0 = nEven P := by omega
      rw [e] at hD0
      refine kX1_mostEven_23 ?_
      refine zb_go (zg_iload_n rfl) rfl ?_
      refine zb_br (zg_if_lt (tgt := 50) (by decide)) rfl (fun c0 => ?_) (fun c0 => ?_)
      · exact fin h0 [(1, .int (nI 0 - 1))] hD0 hs
      · exact absurd (show nI 0 - 1 < 0 by decide) c0
    | succ t ih =>
      intro ht hEt h0 hD0 hs
      rw [nI_pred]
      have hD0' := hD0
      obtain ⟨am, tn, co, fo, hc⟩ := hD0.cell
      obtain ⟨sets, sin, pr, lw, am0, tn0, co0, fo0, pi, hN, hT⟩ := hD0'
      refine kX1_mostEven_23 ?_
      refine zb_go (zg_iload_n rfl) rfl ?_
      refine zb_br (zg_if_lt (tgt := 50) (by decide)) rfl (fun c0 => ?_) (fun c0 => ?_)
      · exact absurd c0 (nI_pos (by omega))
      · refine zb_go (zg_aload_n rfl) rfl ?_
        refine zb_go (zg_aload_n rfl) rfl ?_
        refine zb_callv (r_X1_everyone hN rfl ok) lX1_84 (by repeat (first | assumption | exact z_up_self _ _ _ | refine (z_up_ne (by first | decide | omega)).trans ?_)) rfl rfl (by first | assumption | decide | omega) (by first | decide | omega) rfl (Nat.le_of_ble_eq_true rfl) rfl ?_
        refine zb_go (zg_iload_n rfl) rfl ?_
        refine zb_callvx (r_X1_isEnoughD hD0 ok htw (show 2 ^ pR P - 1 < 64 by omega) (nAm_all P) (show t ≤ 4 by omega)) lX1_110 (by repeat (first | assumption | exact z_up_self _ _ _ | refine (z_up_ne (by first | decide | omega)).trans ?_)) rfl rfl (by first | assumption | decide | omega) (by first | decide | omega) rfl (Nat.le_of_ble_eq_true rfl) rfl ?_
        rintro v h1 ⟨⟨hp, rfl⟩ | ⟨hp, rfl⟩, hD1, hs1⟩
        · obtain ⟨am, tn, co, fo, hc1⟩ := hD1.cell
          refine zb_br (zg_if_eq (tgt := 50) (by decide)) rfl (fun c1 => ?_) (fun c1 => ?_)
          · exact absurd c1 (by decide)
          · refine zb_go (zg_aload_n rfl) rfl ?_
            refine zb_go (zg_iload_n rfl) rfl ?_
            refine zb_go (zg_putfield fX1_32 (by first | assumption | decide | omega) (by repeat (first | assumption | exact z_up_self _ _ _ | refine (z_up_ne (by first | decide | omega)).trans ?_)) (by exact Nat.le_of_ble_eq_true rfl) (by rfl) (by rfl) (by first | exact Or.inl rfl | exact Or.inr ⟨rfl, rfl⟩)) rfl ?_
            refine zb_go (zg_iinc (-1) (by decide) rfl (by decide)) rfl ?_
            refine zb_end (zg_goto (tgt := 23) (by decide) ?_) rfl
            rw [show nI t + -1 = nI t - 1 by rw [Int32.sub_eq_add_neg]]
            exact ih (by omega) ((nCan_even ok (by omega)).mp hp) _ (hD1.know hc1 _ _ _) ((hs.trans hs1).up (by omega) (by omega))
        · have e : t + 1 = nEven P := by
            have := mt (nCan_even ok (show t ≤ pTi P by omega)).mpr hp
            omega
          rw [e] at hD1
          refine zb_br (zg_if_eq (tgt := 50) (by decide)) rfl (fun c1 => ?_) (fun c1 => ?_)
          · exact fin h1 [(1, .int (nI t))] hD1 (hs.trans hs1)
          · exact absurd rfl c1
  refine kX1_mostEven_0 ?_
  refine zb_go (zg_aload_n rfl) rfl ?_
  refine zb_go (zg_getfield fX1_32 (by first | assumption | decide | omega) (by repeat (first | assumption | exact z_up_self _ _ _ | refine (z_up_ne (by first | decide | omega)).trans ?_)) (by rfl)) rfl ?_
  refine zb_go (zg_iconst (-1) (by decide)) rfl ?_
  refine zb_br (zg_icmp_ne (tgt := 50) (by decide)) rfl (fun c0 => ?_) (fun c0 => ?_)
  · rcases hev with e | e
    · exact absurd e c0
    · subst e
      exact fin h [] hD zSame.rf
  · refine zb_go (zg_aload_n rfl) rfl ?_
    refine zb_go (zg_aload_n rfl) rfl ?_
    refine zb_go (zg_getfield fX1_19 (by first | assumption | decide | omega) (by repeat (first | assumption | exact z_up_self _ _ _ | refine (z_up_ne (by first | decide | omega)).trans ?_)) (by rfl)) rfl ?_
    refine zb_go (zg_putfield fX1_32 (by first | assumption | decide | omega) (by repeat (first | assumption | exact z_up_self _ _ _ | refine (z_up_ne (by first | decide | omega)).trans ?_)) (by exact Nat.le_of_ble_eq_true rfl) (by rfl) (by rfl) (by first | exact Or.inl rfl | exact Or.inr ⟨rfl, rfl⟩)) rfl ?_
    refine zb_go (zg_aload_n rfl) rfl ?_
    refine zb_go (zg_getfield fX1_19 (by first | assumption | decide | omega) (by repeat (first | assumption | exact z_up_self _ _ _ | refine (z_up_ne (by first | decide | omega)).trans ?_)) (by rfl)) rfl ?_
    refine zb_go (zg_iconst 1 (by decide)) rfl ?_
    refine zb_go zg_isub rfl ?_
    refine zb_go (zg_istore_n (by decide)) rfl ?_
    refine zb_out ?_
    exact lp (pTi P) (Nat.le_refl _) hE _ (hD.know hc _ _ _) (zSame.rf.up (by omega) (by omega))
end
