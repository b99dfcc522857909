/-! NIGHTS (6): seek -/
section
variable {K : zK} {l : Launch} {n p q r g f am tn tw : Nat} {x y z : Int32} {P : zP} {se ri ti fe ev mi : Int32} {ch co : Int64} {sets sin : Nat → Int32} {pr lw : Nat → Int64} {m : Nat → Nat}
theorem r_X1_seek (ok : okP P) (htw : tw ≤ 60) (hT : nTab P tw sets sin pr lw) (hm : nMask m co) (ham : am < 64) (htn : tn ≤ 4) : ∀ j, j ≤ 3 → ∀ (k : Nat) (h : zH) (F paid : Nat) (pi : Nat → Int32) (a : Nat → Nat), k + j = 3 → isNights h (se, ri, ti, nI (pRe P), ch, fe, ev, mi, sets, sin, pr, lw, nI am, nI tn, co, lN F, pi) → F < 2 ^ 63 → (∀ g, g < k → pi g = nI (a g)) → paid ≤ k * (13 * 2 ^ 57) →
    zRex K l (j + 2) mX1_seek [.ref 22, .int (nI k), .long (lN paid)] 59 h (fun v h' => v = none ∧ ∃ F' pi', isNights h' (se, ri, ti, nI (pRe P), ch, fe, ev, mi, sets, sin, pr, lw, nI am, nI tn, co, lN F', pi') ∧ (∀ g, g < k → pi' g = pi g) ∧ nMin m P tw am tn k paid a F F' ∧ zSame 22 27 h h') := by
  intro j
  induction j with
  | zero =>
    intro hj k h F paid pi a hkj hN hF hpi hpd
    refine zRex.of (by decide) (Nat.le_of_ble_eq_true rfl) (fun Q hQ => ?_)
    obtain ⟨h1, h2, h3, h4, h5, h6⟩ := id hN
    have hk : k = 3 := by omega
    subst hk
    obtain ⟨L, -, -, -, -, -, -, hlw⟩ := hT 3 (by decide)
    have b1 := nLw_le (g := 3) (s := nOpn am tn (pRe P) a 3 3) ok htw
    have b2 := hm.2.1 (nLw P tw 3 (nOpn am tn (pRe P) a 3 3))
    have e1 : lw (64 * 3 + nOpn am tn (pRe P) a 3 3) = lN (nLw P tw 3 (nOpn am tn (pRe P) a 3 3)) := hlw _ nOpn_lt
    have e0 : nLat m P tw am tn a 3 = 0 := rfl
    refine kX1_seek_0 ?_
    refine zb_go (zg_iload_n rfl) rfl ?_
    refine zb_br (zg_if_lt (tgt := 9) (by decide)) rfl (fun c0 => ?_) (fun c0 => ?_)
    · exact absurd c0 (by decide)
    · refine zb_go (zg_iload_n rfl) rfl ?_
      refine zb_go (zg_iconst 3 (by decide)) rfl ?_
      refine zb_br (zg_icmp_le (tgt := 10) (by decide)) rfl (fun c1 => ?_) (fun c1 => ?_)
      · refine kX1_seek_10 ?_
        refine zb_go (zg_aload_n rfl) rfl ?_
        refine zb_go (zg_iload_n rfl) rfl ?_
        refine zb_callv (r_X1_leastAfter hN ok htw hT hm ham htn hpi (by decide)) lX1_158 (by repeat (first | assumption | exact z_up_self _ _ _ | refine (z_up_ne (by first | decide | omega)).trans ?_)) rfl rfl (by first | assumption | decide | omega) (by first | decide | omega) rfl (Nat.le_of_ble_eq_true rfl) rfl ?_
        refine zb_go (zg_lstore (by decide)) rfl ?_
        refine zb_go (zg_aload_n rfl) rfl ?_
        refine zb_go (zg_iload_n rfl) rfl ?_
        refine zb_go (zg_iload_n rfl) rfl ?_
        refine zb_callv (r_X1_openIn hN (ok.2.2.2.2.1) ham htn hpi (by decide) (by decide) (by decide)) lX1_162 (by repeat (first | assumption | exact z_up_self _ _ _ | refine (z_up_ne (by first | decide | omega)).trans ?_)) rfl rfl (by first | assumption | decide | omega) (by first | decide | omega) rfl (Nat.le_of_ble_eq_true rfl) rfl ?_
        refine zb_go (zg_istore (by decide)) rfl ?_
        refine zb_go (zg_iload_n rfl) rfl ?_
        refine zb_go (zg_bipush 64 (by decide)) rfl ?_
        refine zb_go zg_imul rfl ?_
        refine zb_go (zg_istore (by decide)) rfl ?_
        refine zb_go (zg_lload_n rfl) rfl ?_
        refine zb_go (zg_lload rfl) rfl ?_
        refine zb_go zg_ladd rfl ?_
        refine zb_go (zg_aload_n rfl) rfl ?_
        refine zb_go (zg_getfield fX1_49 (by first | assumption | decide | omega) (by repeat (first | assumption | exact z_up_self _ _ _ | refine (z_up_ne (by first | decide | omega)).trans ?_)) (by rfl)) rfl ?_
        refine zb_go (zg_iload rfl) rfl ?_
        refine zb_go (zg_iload rfl) rfl ?_
        refine zb_go zg_iadd rfl ?_
        refine zb_go (zi_laload (by first | assumption | decide | omega) (by repeat (first | assumption | exact z_up_self _ _ _ | refine (z_up_ne (by first | decide | omega)).trans ?_)) (z_ix64 (by decide) nOpn_lt)) rfl ?_
        rw [e1]
        refine zb_go (zg_aload_n rfl) rfl ?_
        refine zb_go (zg_getfield fX1_60 (by first | assumption | decide | omega) (by repeat (first | assumption | exact z_up_self _ _ _ | refine (z_up_ne (by first | decide | omega)).trans ?_)) (by rfl)) rfl ?_
        refine zb_go zg_land rfl ?_
        rw [hm.1 _ (by omega)]
        refine zb_go zg_ladd rfl ?_
        rw [lN_add, lN_add, e0, Nat.add_zero]
        refine zb_go (zg_lstore (by decide)) rfl ?_
        refine zb_go (zg_lload rfl) rfl ?_
        refine zb_go (zg_aload_n rfl) rfl ?_
        refine zb_go (zg_getfield fX1_65 (by first | assumption | decide | omega) (by repeat (first | assumption | exact z_up_self _ _ _ | refine (z_up_ne (by first | decide | omega)).trans ?_)) (by rfl)) rfl ?_
        refine zb_go zg_lcmp rfl ?_
        refine zb_br (zg_if_lt (tgt := 64) (by decide)) rfl (fun c2 => ?_) (fun c2 => ?_)
        · have c2 := (lL_lt (by omega) hF).mp ((lg_cmp_lt _ _).mp c2)
          refine kX1_seek_64 ?_
          refine zb_go (zg_iload_n rfl) rfl ?_
          refine zb_go (zg_iconst 3 (by decide)) rfl ?_
          refine zb_br (zg_icmp_ne (tgt := 76) (by decide)) rfl (fun c3 => ?_) (fun c3 => ?_)
          · exact absurd rfl c3
          · refine zb_go (zg_aload_n rfl) rfl ?_
            refine zb_go (zg_lload rfl) rfl ?_
            refine zb_go (zg_putfield fX1_65 (by first | assumption | decide | omega) (by repeat (first | assumption | exact z_up_self _ _ _ | refine (z_up_ne (by first | decide | omega)).trans ?_)) (by exact Nat.le_of_ble_eq_true rfl) (by rfl) (by rfl) (by first | exact Or.inl rfl | exact Or.inr ⟨rfl, rfl⟩)) rfl ?_
            refine zb_end (zg_return rfl ?_) rfl
            exact hQ _ _ ⟨rfl, paid + m (nLw P tw 3 (nOpn am tn (pRe P) a 3 3)), pi, ⟨z_up_self _ _ _, (z_up_ne (by decide)).trans h2, (z_up_ne (by decide)).trans h3, (z_up_ne (by decide)).trans h4, (z_up_ne (by decide)).trans h5, (z_up_ne (by decide)).trans h6⟩, fun _ _ => rfl, nMin_last hm.2.2 ok htw c2, zSame.rf.up (by omega) (by omega)⟩
        · have c2 : ¬ paid + m (nLw P tw 3 (nOpn am tn (pRe P) a 3 3)) < F := fun q => c2 ((lg_cmp_lt _ _).mpr ((lL_lt (by omega) hF).mpr q))
          refine zb_end (zg_return rfl ?_) rfl
          exact hQ _ _ ⟨rfl, F, pi, hN, fun _ _ => rfl, nMin_prune hm.2.2 (by decide) (by rw [e0]; omega), zSame.rf⟩
      · exact absurd (by decide) c1
  | succ j ihj =>
    intro hj k h F paid pi a hkj hN hF hpi hpd
    refine zRex.of (by decide) (Nat.le_of_ble_eq_true rfl) (fun Q hQ => ?_)
    obtain ⟨h1, h2, h3, h4, h5, h6⟩ := id hN
    have hk2 : k ≤ 2 := by omega
    obtain ⟨L, hsin, hL64, hsets, hmem, hsort, hpr, hlw⟩ := hT k (by omega)
    have b1 := nLw_le (g := k) (s := nOpn am tn (pRe P) a k k) ok htw
    have b2 := hm.2.1 (nLw P tw k (nOpn am tn (pRe P) a k k))
    have e1 : lw (64 * k + nOpn am tn (pRe P) a k k) = lN (nLw P tw k (nOpn am tn (pRe P) a k k)) := hlw _ nOpn_lt
    have b3 : nLat m P tw am tn a k ≤ (3 - k) * (13 * 2 ^ 57) := zsum_le (fun i _ => Nat.le_trans (hm.2.1 _) (nLw_le ok htw))
    have bb : k * (13 * 2 ^ 57) + (3 - k) * (13 * 2 ^ 57) = 39 * 2 ^ 57 := by
      rw [← Nat.add_mul, show k + (3 - k) = 3 by omega]
    have hop := nOpn_lt (am := am) (tn := tn) (re := pRe P) (k := k) (f := k) (a := a)
    refine kX1_seek_0 ?_
    refine zb_go (zg_iload_n rfl) rfl ?_
    refine zb_br (zg_if_lt (tgt := 9) (by decide)) rfl (fun c0 => ?_) (fun c0 => ?_)
    · exact absurd c0 (nI_pos (by omega))
    · refine zb_go (zg_iload_n rfl) rfl ?_
      refine zb_go (zg_iconst 3 (by decide)) rfl ?_
      refine zb_br (zg_icmp_le (tgt := 10) (by decide)) rfl (fun c1 => ?_) (fun c1 => ?_)
      · refine kX1_seek_10 ?_
        refine zb_go (zg_aload_n rfl) rfl ?_
        refine zb_go (zg_iload_n rfl) rfl ?_
        refine zb_callv (r_X1_leastAfter hN ok htw hT hm ham htn hpi (by omega)) lX1_158 (by repeat (first | assumption | exact z_up_self _ _ _ | refine (z_up_ne (by first | decide | omega)).trans ?_)) rfl rfl (by first | assumption | decide | omega) (by first | decide | omega) rfl (Nat.le_of_ble_eq_true rfl) rfl ?_
        refine zb_go (zg_lstore (by decide)) rfl ?_
        refine zb_go (zg_aload_n rfl) rfl ?_
        refine zb_go (zg_iload_n rfl) rfl ?_
        refine zb_go (zg_iload_n rfl) rfl ?_
        refine zb_callv (r_X1_openIn hN (ok.2.2.2.2.1) ham htn hpi (by omega) (by omega) (by omega)) lX1_162 (by repeat (first | assumption | exact z_up_self _ _ _ | refine (z_up_ne (by first | decide | omega)).trans ?_)) rfl rfl (by first | assumption | decide | omega) (by first | decide | omega) rfl (Nat.le_of_ble_eq_true rfl) rfl ?_
        refine zb_go (zg_istore (by decide)) rfl ?_
        refine zb_go (zg_iload_n rfl) rfl ?_
        refine zb_go (zg_bipush 64 (by decide)) rfl ?_
        refine zb_go zg_imul rfl ?_
        refine zb_go (zg_istore (by decide)) rfl ?_
        refine zb_go (zg_lload_n rfl) rfl ?_
        refine zb_go (zg_lload rfl) rfl ?_
        refine zb_go zg_ladd rfl ?_
        refine zb_go (zg_aload_n rfl) rfl ?_
        refine zb_go (zg_getfield fX1_49 (by first | assumption | decide | omega) (by repeat (first | assumption | exact z_up_self _ _ _ | refine (z_up_ne (by first | decide | omega)).trans ?_)) (by rfl)) rfl ?_
        refine zb_go (zg_iload rfl) rfl ?_
        refine zb_go (zg_iload rfl) rfl ?_
        refine zb_go zg_iadd rfl ?_
        refine zb_go (zi_laload (by first | assumption | decide | omega) (by repeat (first | assumption | exact z_up_self _ _ _ | refine (z_up_ne (by first | decide | omega)).trans ?_)) (z_ix64 (by omega) nOpn_lt)) rfl ?_
        rw [e1]
        refine zb_go (zg_aload_n rfl) rfl ?_
        refine zb_go (zg_getfield fX1_60 (by first | assumption | decide | omega) (by repeat (first | assumption | exact z_up_self _ _ _ | refine (z_up_ne (by first | decide | omega)).trans ?_)) (by rfl)) rfl ?_
        refine zb_go zg_land rfl ?_
        rw [hm.1 _ (by omega)]
        refine zb_go zg_ladd rfl ?_
        rw [lN_add, lN_add]
        refine zb_go (zg_lstore (by decide)) rfl ?_
        refine zb_go (zg_lload rfl) rfl ?_
        refine zb_go (zg_aload_n rfl) rfl ?_
        refine zb_go (zg_getfield fX1_65 (by first | assumption | decide | omega) (by repeat (first | assumption | exact z_up_self _ _ _ | refine (z_up_ne (by first | decide | omega)).trans ?_)) (by rfl)) rfl ?_
        refine zb_go zg_lcmp rfl ?_
        refine zb_br (zg_if_lt (tgt := 64) (by decide)) rfl (fun c2 => ?_) (fun c2 => ?_)
        · have c2 := (lL_lt (by omega) hF).mp ((lg_cmp_lt _ _).mp c2)
          sorry
        · have c2 : ¬ paid + nLat m P tw am tn a k + m (nLw P tw k (nOpn am tn (pRe P) a k k)) < F := fun q => c2 ((lg_cmp_lt _ _).mpr ((lL_lt (by omega) hF).mpr q))
          refine zb_end (zg_return rfl ?_) rfl
          exact hQ _ _ ⟨rfl, F, pi, hN, fun _ _ => rfl, nMin_prune hm.2.2 (by omega) (by omega), zSame.rf⟩
      · exact absurd (nI_le (a := k) (b := 3) (by omega) (by decide)) c1
end
