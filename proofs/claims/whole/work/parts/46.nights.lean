/-! NIGHTS (17): settled -/
def tabE (P : zP) (tw g : Nat) (sets sin : Nat → Int32) (pr lw : Nat → Int64) : Prop := ∃ L : List Nat, sin g = nI L.length ∧ L.length ≤ 64 ∧ (∀ i, i < L.length → sets (64 * g + i) = nI (L.getD i 0)) ∧ (∀ s, s ∈ L ↔ s < 64 ∧ (nPrice P tw g s).isSome = true) ∧
      (∀ i j, i ≤ j → j < L.length → (nPrice P tw g (L.getD i 0)).getD 0 ≤ (nPrice P tw g (L.getD j 0)).getD 0) ∧
      (∀ s, s < 64 → pr (64 * g + s) = lN ((nPrice P tw g s).getD (2 ^ 63 - 1))) ∧
      ∀ s, s < 64 → lw (64 * g + s) = lN (zmn (fun t => decide (t &&& s = t)) (fun t => (nPrice P tw g t).getD (2 ^ 63 - 1)) 64)
theorem tabE.keep {P : zP} {tw g k : Nat} {sets sin sets' sin' : Nat → Int32} {pr lw pr' lw' : Nat → Int64} (h : tabE P tw k sets sin pr lw) (hk : k < g) (o1 : zOut g sets' sets) (o2 : zOut g pr' pr) (o3 : ∀ k, k ≠ g → sin' k = sin k) (o4 : zOut g lw' lw) : tabE P tw k sets' sin' pr' lw' := by
  obtain ⟨L, a1, a2, a3, a4, a5, a6, a7⟩ := h
  exact ⟨L, (o3 k (by omega)).trans a1, a2, fun i hi => (o1 _ (by omega)).trans (a3 i hi), a4, a5, fun s hs => (o2 _ (by omega)).trans (a6 s hs), fun s hs => (o4 _ (by omega)).trans (a7 s hs)⟩
theorem tabI.all {P : zP} {tw g : Nat} {sets sin : Nat → Int32} {pr lw : Nat → Int64} (h : tabI P tw g 0 sets sin pr) (hl : ∀ t, t < 64 → lw (64 * g + t) = lN (zlw (nPr P tw g) t)) : tabE P tw g sets sin pr lw := by
  obtain ⟨L, a1, a2, a3, a4, a5, a6⟩ := h
  have so : ∀ i, i < L.length → nPr P tw g (L.getD i 0) = (nPrice P tw g (L.getD i 0)).getD 0 := fun i hi => by
    have := ((a4 (L.getD i 0)).mp (by rw [z_getD hi]; exact List.getElem_mem hi)).2.2
    unfold nPr
    cases e : nPrice P tw g (L.getD i 0) with
    | none => rw [e] at this; cases this
    | some x => rfl
  refine ⟨L, a1, a2, a3, fun s => ?_, fun i j hij hj => ?_, fun s hs => a6 s (Nat.zero_le _) hs, hl⟩
  · rw [a4 s]
    exact ⟨fun h => h.2, fun h => ⟨Nat.zero_le _, h⟩⟩
  · rw [← so i (by omega), ← so j hj]
    exact a5 i j hij hj
section
variable {K : zK} {l : Launch} {n p q r g am0 tw s : Nat} {h : zH} {x y z : Int32} {P : zP} {se ri ti re fe ev mi am tn : Int32} {ch co fo : Int64} {sets sin pi : Nat → Int32} {pr lw : Nat → Int64} {f : Nat → Nat}
theorem r_X1_settle (hN : isNights h (se, ri, ti, re, ch, fe, ev, mi, sets, sin, pr, lw, am, tn, co, fo, pi)) (hS : se = 0 ∨ (se = 1 ∧ nDone h P tw fe ev mi)) (hP : isPar h p P) (hp : p + 5 < 22) (ok : okP P) (htw : tw ≤ 60) :
    zRex K l 10 mX1_settle [.ref 22, .ref p, .int (nI tw)] 59 h (fun v h' => v = none ∧ nDone h' P tw fe ev mi ∧ zSame 22 27 h h') := by
  refine zRex.of (by decide) (Nat.le_of_ble_eq_true rfl) (fun Q hQ => ?_)
  obtain ⟨h1, h2, h3, h4, h5, h6⟩ := id hN
  have p1 := hP.1
  have ht4 := ok.2.2.2.1.2
  have hp2 : 2 ^ pR P ≤ 64 := Nat.le_trans (Nat.pow_le_pow_right (by decide) ok.2.1) (by decide)
  have hp1 : 1 ≤ 2 ^ pR P := Nat.one_le_two_pow
  have lp : ∀ g, g ≤ 4 → ∀ h0 sets' sin' pr' lw', isNights h0 (se, nI (pR P), nI (pTi P), nI (pRe P), ch, fe, ev, mi, sets', sin', pr', lw', am, tn, co, fo, pi) → zSame 22 27 h h0 → (∀ k, k < g → tabE P tw k sets' sin' pr' lw') → zGo K l 10 mX1_settle 34 [(0, .ref 22), (1, .ref p), (2, .int (nI tw)), (3, .int (nI g))] [] 59 h0 0 0 Q := by
    refine z_down 4 (fun g hg ih h0 sets' sin' pr' lw' hN0 hsm hT => ?_)
    have g1 := hN0.1
    have hP0 := hP.same hsm (by omega)
    refine kX1_settle_34 ?_
    refine zb_go (zg_iload_n rfl) rfl ?_
    refine zb_go (zg_iconst 4 (by decide)) rfl ?_
    refine zb_br (zg_icmp_ge (tgt := 57) (by decide)) rfl (fun c0 => ?_) (fun c0 => ?_)
    · have e : g = 4 := by
        have := (nI_leI (a := 4) (b := g) (by decide) (by omega)).mp c0
        omega
      subst e
      refine kX1_settle_57 ?_
      refine zb_go (zg_aload_n rfl) rfl ?_
      refine zb_go (zg_aload_n rfl) rfl ?_
      refine zb_go (zg_ldc2_w cX1_58) rfl ?_
      refine zb_go (zg_aload_n rfl) rfl ?_
      refine zb_callv (r_X1_everyone hN0 rfl ok) lX1_84 (by repeat (first | assumption | exact z_up_self _ _ _ | refine (z_up_ne (by first | decide | omega)).trans ?_)) rfl rfl (by first | decide | assumption | omega) (by first | decide | omega) rfl (Nat.le_of_ble_eq_true rfl) rfl ?_
      refine zb_go (zg_aload_n rfl) rfl ?_
      refine zb_go (zg_getfield fX1_19 (by first | decide | assumption | omega) (by repeat (first | assumption | exact z_up_self _ _ _ | refine (z_up_ne (by first | decide | omega)).trans ?_)) (by rfl)) rfl ?_
      refine zb_go (zg_ldc2_w cX1_63) rfl ?_
      rw [lL_far]
      refine zb_callvx (r_X1_search hN0 ok htw (show nTab P tw sets' sin' pr' lw' from fun g hg => hT g hg) nMask_all (show 2 ^ pR P - 1 < 64 by omega) ht4 (show 2 ^ 63 - 1 < 2 ^ 63 by decide)) lX1_88 (by repeat (first | assumption | exact z_up_self _ _ _ | refine (z_up_ne (by first | decide | omega)).trans ?_)) rfl rfl (by first | decide | assumption | omega) (by first | decide | omega) rfl (Nat.le_of_ble_eq_true rfl) rfl ?_
      rintro v h6 ⟨F', pi', rfl, hF, hN6, hM, s6⟩
      have k6 := hN6.1
      have eF := nMin_best ok (nAm_all P) hM
      rw [eF] at hN6 k6 ⊢
      refine zb_go (zg_putfield fX1_25 (by first | decide | assumption | omega) (by repeat (first | assumption | exact z_up_self _ _ _ | refine (z_up_ne (by first | decide | omega)).trans ?_)) (by exact Nat.le_of_ble_eq_true rfl) (by rfl) (by rfl) (by first | exact Or.inl rfl | exact Or.inr ⟨rfl, rfl⟩)) rfl ?_
      refine zb_go (zg_aload_n rfl) rfl ?_
      refine zb_go (zg_iconst 1 (by decide)) rfl ?_
      refine zb_go (zg_putfield fX1_11 (by first | decide | assumption | omega) (by repeat (first | assumption | exact z_up_self _ _ _ | refine (z_up_ne (by first | decide | omega)).trans ?_)) (by exact Nat.le_of_ble_eq_true rfl) (by rfl) (by rfl) (by first | exact Or.inl rfl | exact Or.inr ⟨rfl, rfl⟩)) rfl ?_
      refine zb_end (zg_return rfl ?_) rfl
      rw [z_up_up]
      exact hQ _ _ ⟨rfl, ⟨sets', sin', pr', lw', _, _, _, _, pi', ⟨z_up_self _ _ _, (z_up_ne (by decide)).trans hN6.2.1, (z_up_ne (by decide)).trans hN6.2.2.1, (z_up_ne (by decide)).trans hN6.2.2.2.1, (z_up_ne (by decide)).trans hN6.2.2.2.2.1, (z_up_ne (by decide)).trans hN6.2.2.2.2.2⟩, fun g hg => hT g hg⟩, (hsm.trans s6).up (by omega) (by omega)⟩
    · have hg4 : g < 4 := Nat.not_le.mp (fun q => c0 (nI_le q (by omega)))
      refine zb_go (zg_aload_n rfl) rfl ?_
      refine zb_go (zg_aload_n rfl) rfl ?_
      refine zb_go (zg_iload_n rfl) rfl ?_
      refine zb_go (zg_iload_n rfl) rfl ?_
      refine zb_callvx (r_X1_priceHour hN0 hP0 hp ok htw hg4) lX1_76 (by repeat (first | assumption | exact z_up_self _ _ _ | refine (z_up_ne (by first | decide | omega)).trans ?_)) rfl rfl (by first | decide | assumption | omega) (by first | decide | omega) rfl (Nat.le_of_ble_eq_true rfl) rfl ?_
      rintro v h6 ⟨rfl, s6, sets2, sin2, pr2, hN6, hI, o1, o2, o3⟩
      have k6 := hN6.1
      have hI' := hI
      obtain ⟨L, -, -, -, -, -, hpr2⟩ := hI'
      refine zb_go (zg_aload_n rfl) rfl ?_
      refine zb_go (zg_iload_n rfl) rfl ?_
      refine zb_callvx (r_X1_findLeast (f := nPr P tw g) hN6 hg4 (fun t => Nat.le_sub_one_of_lt (nPr_lt ok htw)) (fun t ht => hpr2 t (Nat.zero_le _) ht)) lX1_80 (by repeat (first | assumption | exact z_up_self _ _ _ | refine (z_up_ne (by first | decide | omega)).trans ?_)) rfl rfl (by first | decide | assumption | omega) (by first | decide | omega) rfl (Nat.le_of_ble_eq_true rfl) rfl ?_
      rintro v h7 ⟨rfl, s7, lw2, hN7, hl, o4⟩
      refine zb_go (zg_iinc 1 (by decide) rfl (by decide)) rfl ?_
      refine zb_end (zg_goto (tgt := 34) (by decide) ?_) rfl
      rw [nI_1]
      refine ih hg4 h7 sets2 sin2 pr2 lw2 hN7 ((hsm.trans s6).trans s7) (fun k hk => ?_)
      rcases Nat.lt_or_ge k g with w | w
      · exact (hT k w).keep w o1 o2 o3 o4
      · rw [show k = g by omega]
        exact hI.all hl
  refine kX1_settle_0 ?_
  refine zb_go (zg_aload_n rfl) rfl ?_
  refine zb_go (zg_getfield fX1_11 (by first | decide | assumption | omega) (by repeat (first | assumption | exact z_up_self _ _ _ | refine (z_up_ne (by first | decide | omega)).trans ?_)) (by rfl)) rfl ?_
  refine zb_br (zg_if_eq (tgt := 8) (by decide)) rfl (fun c0 => ?_) (fun c0 => ?_)
  · rcases hS with e | ⟨e, -⟩
    · refine kX1_settle_8 ?_
      refine zb_go (zg_aload_n rfl) rfl ?_
      refine zb_go (zg_aload_n rfl) rfl ?_
      refine zb_go (zg_getfield fX1_71 (by first | decide | assumption | omega) (by repeat (first | assumption | exact z_up_self _ _ _ | refine (z_up_ne (by first | decide | omega)).trans ?_)) (by rfl)) rfl ?_
      refine zb_go (zg_putfield fX1_15 (by first | decide | assumption | omega) (by repeat (first | assumption | exact z_up_self _ _ _ | refine (z_up_ne (by first | decide | omega)).trans ?_)) (by exact Nat.le_of_ble_eq_true rfl) (by rfl) (by rfl) (by first | exact Or.inl rfl | exact Or.inr ⟨rfl, rfl⟩)) rfl ?_
      refine zb_go (zg_aload_n rfl) rfl ?_
      refine zb_go (zg_aload_n rfl) rfl ?_
      refine zb_go (zg_getfield fX1_74 (by first | decide | assumption | omega) (by repeat (first | assumption | exact z_up_self _ _ _ | refine (z_up_ne (by first | decide | omega)).trans ?_)) (by rfl)) rfl ?_
      refine zb_go (zg_putfield fX1_19 (by first | decide | assumption | omega) (by repeat (first | assumption | exact z_up_self _ _ _ | refine (z_up_ne (by first | decide | omega)).trans ?_)) (by exact Nat.le_of_ble_eq_true rfl) (by rfl) (by rfl) (by first | exact Or.inl rfl | exact Or.inr ⟨rfl, rfl⟩)) rfl ?_
      refine zb_go (zg_aload_n rfl) rfl ?_
      refine zb_go (zg_aload_n rfl) rfl ?_
      refine zb_go (zg_getfield fX1_75 (by first | decide | assumption | omega) (by repeat (first | assumption | exact z_up_self _ _ _ | refine (z_up_ne (by first | decide | omega)).trans ?_)) (by rfl)) rfl ?_
      refine zb_go (zg_putfield fX1_22 (by first | decide | assumption | omega) (by repeat (first | assumption | exact z_up_self _ _ _ | refine (z_up_ne (by first | decide | omega)).trans ?_)) (by exact Nat.le_of_ble_eq_true rfl) (by rfl) (by rfl) (by first | exact Or.inl rfl | exact Or.inr ⟨rfl, rfl⟩)) rfl ?_
      refine zb_go (zg_iconst 0 (by decide)) rfl ?_
      refine zb_go (zg_istore_n (by decide)) rfl ?_
      refine zb_out ?_
      rw [z_up_up, z_up_up]
      exact lp 0 (Nat.zero_le _) _ sets sin pr lw ⟨z_up_self _ _ _, (z_up_ne (by decide)).trans h2, (z_up_ne (by decide)).trans h3, (z_up_ne (by decide)).trans h4, (z_up_ne (by decide)).trans h5, (z_up_ne (by decide)).trans h6⟩ (zSame.rf.up (by omega) (by omega)) (fun k hk => absurd hk (Nat.not_lt_zero _))
    · rw [e] at c0; exact absurd c0 (by decide)
  · rcases hS with e | ⟨e, hD⟩
    · exact absurd e c0
    · refine zb_end (zg_return rfl ?_) rfl
      exact hQ _ _ ⟨rfl, hD, zSame.rf⟩
end
