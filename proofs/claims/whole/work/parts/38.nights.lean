/-! NIGHTS (9): search, everyone, isEnough -/
/-- no more is short without those kept out, each so many times at most -/
def nCan (P : zP) (wo tn : Nat) : Prop := ∃ c, c < 2 ^ 24 ∧ nLaw P wo tn c = true ∧ nMost P 0 ≤ nRung c
theorem nCost_congr {m : Nat → Nat} {P : zP} {tw k : Nat} {a b : Nat → Nat} (h : ∀ g, g < 4 → a g = b g) : nCost m P tw a k = nCost m P tw b k := zsum_congr (fun i hi => by rw [h (k + i) (by omega)])
theorem nMin_best {P : zP} {tw am F' : Nat} {a : Nat → Nat} (ok : okP P) (ham : nAm P 0 am) (h : nMin (fun a => a) P tw am (pTi P) 0 0 a (2 ^ 63 - 1) F') : F' = nBest P tw := by
  obtain ⟨h1, h2, h3⟩ := h
  refine Nat.le_antisymm (zmn_ge h1 (fun c _ hc => ?_)) ?_
  · have e := h2 (nS c) (fun g hg => absurd hg (Nat.not_lt_zero _)) (fun g _ hg => (nLaw_iff (tw := tw) ham (fun _ _ => rfl)).mp hc g hg) trivial
    rw [Nat.zero_add, nKey_eq ok hc] at e
    exact e
  · rcases h3 with e | ⟨b, -, hb, e⟩
    · rw [e]; exact zmn_top _
    · have b64 : ∀ g, g < 4 → b g < 64 := fun g hg => (hb g (Nat.zero_le _) hg).1
      have hc := (nLaw_iff (c := nEnc b) (tw := tw) ham (fun g hg => (nS_enc b64 hg).symm)).mpr (fun g hg => hb g (Nat.zero_le _) hg)
      rw [e, Nat.zero_add, nCost_congr (b := nS (nEnc b)) (fun g hg => (nS_enc b64 hg).symm), nKey_eq ok hc]
      exact zmn_le (nEnc_lt b64) hc
theorem nMost_le {P : zP} (ok : okP P) : nMost P 0 ≤ pAll P := by
  obtain ⟨c, h1, h2, h3, h4⟩ := nBest_at (tw := 0) ok (by decide)
  rw [← h4]
  exact nRung_le ok h2
theorem nMin_can {P : zP} {tw wo am tn F' A : Nat} {a : Nat → Nat} (ok : okP P) (htw : tw ≤ 60) (ham : nAm P wo am) (hA : A = (pAll P - nMost P 0) * 2 ^ 59) (h : nMin zSh P tw am tn 0 0 a (A + 1) F') : F' ≤ A ↔ nCan P wo tn := by
  obtain ⟨h1, h2, h3⟩ := h
  have hM := nMost_le ok
  constructor
  · intro hF
    rcases h3 with e | ⟨b, -, hb, e⟩
    · rw [e] at hF
      exact absurd hF (Nat.not_succ_le_self _)
    · have b64 : ∀ g, g < 4 → b g < 64 := fun g hg => (hb g (Nat.zero_le _) hg).1
      have hc := (nLaw_iff (c := nEnc b) (tw := tw) ham (fun g hg => (nS_enc b64 hg).symm)).mpr (fun g hg => hb g (Nat.zero_le _) hg)
      rw [e, Nat.zero_add, nCost_congr (b := nS (nEnc b)) (fun g hg => (nS_enc b64 hg).symm), nShort_eq ok htw hc, hA] at hF
      have h4 := Nat.le_of_mul_le_mul_right hF (by decide)
      have h5 := nRung_le ok hc
      exact ⟨nEnc b, nEnc_lt b64, hc, by
        generalize nMost P 0 = M at h4 hM ⊢
        generalize nRung (nEnc b) = R at h4 h5 ⊢
        omega⟩
  · rintro ⟨c, hc1, hc, hr⟩
    have e := h2 (nS c) (fun g hg => absurd hg (Nat.not_lt_zero _)) (fun g _ hg => (nLaw_iff (tw := tw) ham (fun _ _ => rfl)).mp hc g hg) trivial
    rw [Nat.zero_add, nShort_eq ok htw hc] at e
    rw [hA]
    exact Nat.le_trans e (Nat.mul_le_mul_right _ (Nat.sub_le_sub_left hr _))
section
variable {K : zK} {l : Launch} {n p q r g f am tn tw F wo : Nat} {h : zH} {x y z : Int32} {P : zP} {se ri ti fe ev mi am0 tn0 : Int32} {ch co co0 fo0 : Int64} {sets sin pi : Nat → Int32} {pr lw : Nat → Int64} {m : Nat → Nat}
theorem r_X1_search (hN : isNights h (se, ri, ti, nI (pRe P), ch, fe, ev, mi, sets, sin, pr, lw, am0, tn0, co0, fo0, pi)) (ok : okP P) (htw : tw ≤ 60) (hT : nTab P tw sets sin pr lw) (hm : nMask m co) (ham : am < 64) (htn : tn ≤ 4) (hF : F < 2 ^ 63) : zRex K l 6 mX1_search [.ref 22, .long co, .int (nI am), .int (nI tn), .long (lN F)] 59 h (fun v h' => ∃ F' pi', v = some (.long (lN F')) ∧ F' < 2 ^ 63 ∧ isNights h' (se, ri, ti, nI (pRe P), ch, fe, ev, mi, sets, sin, pr, lw, nI am, nI tn, co, lN F', pi') ∧ nMin m P tw am tn 0 0 (fun _ => 0) F F' ∧ zSame 22 27 h h') := by
  refine zRex.of (by decide) (Nat.le_of_ble_eq_true rfl) (fun Q hQ => ?_)
  obtain ⟨h1, h2, h3, h4, h5, h6⟩ := id hN
  refine kX1_search_0 ?_
  refine zb_go (zg_aload_n rfl) rfl ?_
  refine zb_go (zg_lload_n rfl) rfl ?_
  refine zb_go (zg_putfield fX1_60 (by first | assumption | decide | omega) (by repeat (first | assumption | exact z_up_self _ _ _ | refine (z_up_ne (by first | decide | omega)).trans ?_)) (by exact Nat.le_of_ble_eq_true rfl) (by rfl) (by rfl) (by first | exact Or.inl rfl | exact Or.inr ⟨rfl, rfl⟩)) rfl ?_
  refine zb_go (zg_aload_n rfl) rfl ?_
  refine zb_go (zg_iload_n rfl) rfl ?_
  refine zb_go (zg_putfield fX1_52 (by first | assumption | decide | omega) (by repeat (first | assumption | exact z_up_self _ _ _ | refine (z_up_ne (by first | decide | omega)).trans ?_)) (by exact Nat.le_of_ble_eq_true rfl) (by rfl) (by rfl) (by first | exact Or.inl rfl | exact Or.inr ⟨rfl, rfl⟩)) rfl ?_
  refine zb_go (zg_aload_n rfl) rfl ?_
  refine zb_go (zg_iload rfl) rfl ?_
  refine zb_go (zg_putfield fX1_55 (by first | assumption | decide | omega) (by repeat (first | assumption | exact z_up_self _ _ _ | refine (z_up_ne (by first | decide | omega)).trans ?_)) (by exact Nat.le_of_ble_eq_true rfl) (by rfl) (by rfl) (by first | exact Or.inl rfl | exact Or.inr ⟨rfl, rfl⟩)) rfl ?_
  refine zb_go (zg_aload_n rfl) rfl ?_
  refine zb_go (zg_lload rfl) rfl ?_
  refine zb_go (zg_putfield fX1_65 (by first | assumption | decide | omega) (by repeat (first | assumption | exact z_up_self _ _ _ | refine (z_up_ne (by first | decide | omega)).trans ?_)) (by exact Nat.le_of_ble_eq_true rfl) (by rfl) (by rfl) (by first | exact Or.inl rfl | exact Or.inr ⟨rfl, rfl⟩)) rfl ?_
  refine zb_go (zg_aload_n rfl) rfl ?_
  refine zb_go (zg_iconst 0 (by decide)) rfl ?_
  rw [z_up_up, z_up_up, z_up_up]
  simp only [List.set_cons_succ, List.set_cons_zero]
  have s1 : zSame 22 27 h (z_up h 22 (.inr (0, [.int se, .int ri, .int ti, .int (nI (pRe P)), .long ch, .int fe, .int ev, .int mi, .ref 23, .ref 24, .ref 25, .ref 26, .int (nI am), .int (nI tn), .long co, .long (lN F), .ref 27]))) := zSame.rf.up (by omega) (by omega)
  have hN1 : isNights (z_up h 22 (.inr (0, [.int se, .int ri, .int ti, .int (nI (pRe P)), .long ch, .int fe, .int ev, .int mi, .ref 23, .ref 24, .ref 25, .ref 26, .int (nI am), .int (nI tn), .long co, .long (lN F), .ref 27]))) (se, ri, ti, nI (pRe P), ch, fe, ev, mi, sets, sin, pr, lw, nI am, nI tn, co, lN F, pi) := ⟨z_up_self _ _ _, (z_up_ne (by decide)).trans h2, (z_up_ne (by decide)).trans h3, (z_up_ne (by decide)).trans h4, (z_up_ne (by decide)).trans h5, (z_up_ne (by decide)).trans h6⟩
  refine zb_go (zg_lconst 0 (by decide)) rfl ?_
  refine zb_callsx (r_X1_seek ok htw hT hm ham htn 3 (Nat.le_refl _) 0 _ F 0 pi (fun _ => 0) rfl hN1 hF (fun g hg => absurd hg (Nat.not_lt_zero _)) (Nat.zero_le _)) lX1_154 rfl (by first | decide | omega) rfl (Nat.le_of_ble_eq_true rfl) rfl ?_
  rintro v h' ⟨rfl, F', pi', hN', -, hM, s2⟩
  have g1 := hN'.1
  refine zb_go (zg_aload_n rfl) rfl ?_
  refine zb_go (zg_getfield fX1_65 (by first | assumption | decide | omega) (by repeat (first | assumption | exact z_up_self _ _ _ | refine (z_up_ne (by first | decide | omega)).trans ?_)) (by rfl)) rfl ?_
  refine zb_end (zg_lreturn rfl ?_) rfl
  exact hQ _ _ ⟨F', pi', rfl, Nat.lt_of_le_of_lt hM.1 hF, hN', hM, s1.trans s2⟩
theorem r_X1_everyone {N : zN} (hN : isNights h N) (hr : N.2.1 = nI (pR P)) (ok : okP P) : zRet K l 0 mX1_everyone [.ref 22] 59 h (some (.int (nI (2 ^ pR P - 1)))) h := by
  refine zRet.of (by decide) (Nat.le_of_ble_eq_true rfl) (fun Q hQ => ?_)
  have c := hN.cell
  have := ok.2.1
  refine kX1_everyone_0 ?_
  refine zb_go (zg_iconst 1 (by decide)) rfl ?_
  refine zb_go (zg_aload_n rfl) rfl ?_
  refine zb_go (zg_getfield fX1_15 (by first | assumption | decide | omega) (by repeat (first | assumption | exact z_up_self _ _ _ | refine (z_up_ne (by first | decide | omega)).trans ?_)) (by rfl)) rfl ?_
  refine zb_go zg_ishl rfl ?_
  refine zb_go (zg_iconst 1 (by decide)) rfl ?_
  refine zb_go zg_isub rfl ?_
  rw [hr, z_mask (by omega)]
  refine zb_end (zg_ireturn rfl (by rfl) ?_) rfl
  exact hQ
theorem zIf_le {a b : Nat} {p : Prop} (h : a ≤ b ↔ p) : (a ≤ b ∧ p) ∨ (¬ a ≤ b ∧ ¬ p) := by
  by_cases q : a ≤ b
  · exact Or.inl ⟨q, h.mp q⟩
  · exact Or.inr ⟨q, fun z => q (h.mpr z)⟩
theorem r_X1_isEnough (hN : isNights h (se, ri, ti, nI (pRe P), lN (nBest P tw), fe, ev, mi, sets, sin, pr, lw, am0, tn0, co0, fo0, pi)) (ok : okP P) (htw : tw ≤ 60) (hT : nTab P tw sets sin pr lw) (ham : am < 64) (hwo : nAm P wo am) (htn : tn ≤ 4) : zRex K l 7 mX1_isEnough [.ref 22, .int (nI am), .int (nI tn)] 59 h (fun v h' => zIf (nCan P wo tn) v ∧ (∃ am1 tn1 co1 fo1 pi1, isNights h' (se, ri, ti, nI (pRe P), lN (nBest P tw), fe, ev, mi, sets, sin, pr, lw, am1, tn1, co1, fo1, pi1)) ∧ zSame 22 27 h h') := by
  refine zRex.of (by decide) (Nat.le_of_ble_eq_true rfl) (fun Q hQ => ?_)
  obtain ⟨h1, h2, h3, h4, h5, h6⟩ := id hN
  have eA := nBest_short (tw := tw) ok htw
  have hA : zSh (nBest P tw) + 1 < 2 ^ 63 := by
    rw [eA]
    have : (pAll P - nMost P 0) * 2 ^ 59 ≤ 12 * 2 ^ 59 := Nat.mul_le_mul_right _ (Nat.le_trans (Nat.sub_le _ _) (pAll_le ok))
    exact Nat.lt_of_le_of_lt (Nat.add_le_add_right this 1) (by decide)
  refine kX1_isEnough_0 ?_
  refine zb_go (zg_aload_n rfl) rfl ?_
  refine zb_go (zg_getfield fX1_25 (by first | assumption | decide | omega) (by repeat (first | assumption | exact z_up_self _ _ _ | refine (z_up_ne (by first | decide | omega)).trans ?_)) (by rfl)) rfl ?_
  refine zb_go (zg_ldc2_w cX1_120) rfl ?_
  refine zb_go zg_land rfl ?_
  rw [lL_short (nBest_lt P tw)]
  refine zb_go (zg_lstore_n (by decide)) rfl ?_
  refine zb_go (zg_aload_n rfl) rfl ?_
  refine zb_go (zg_ldc2_w cX1_120) rfl ?_
  refine zb_go (zg_iload_n rfl) rfl ?_
  refine zb_go (zg_iload_n rfl) rfl ?_
  refine zb_go (zg_lload_n rfl) rfl ?_
  refine zb_go (zg_lconst 1 (by decide)) rfl ?_
  refine zb_go zg_ladd rfl ?_
  rw [lN_1]
  refine zb_callvx (r_X1_search hN ok htw hT nMask_short ham htn hA) lX1_88 (by repeat (first | assumption | exact z_up_self _ _ _ | refine (z_up_ne (by first | decide | omega)).trans ?_)) rfl rfl (by first | assumption | decide | omega) (by first | decide | omega) rfl (Nat.le_of_ble_eq_true rfl) rfl ?_
  rintro v h' ⟨F', pi', rfl, hF', hN', hM, s⟩
  have key := zIf_le (nMin_can ok htw hwo eA hM)
  refine zb_go (zg_lload_n rfl) rfl ?_
  refine zb_go zg_lcmp rfl ?_
  refine zb_br (zg_if_gt (tgt := 30) (by decide)) rfl (fun c0 => ?_) (fun c0 => ?_)
  · have c0 := (lg_cmp_gt _ _).mp c0
    have c0 := (lL_lt (Nat.lt_of_succ_lt hA) hF').mp c0
    rcases key with ⟨k1, -⟩ | ⟨-, k2⟩
    · exact absurd k1 (Nat.not_le.mpr c0)
    · refine kX1_isEnough_30 ?_
      refine zb_go (zg_iconst 0 (by decide)) rfl ?_
      refine zb_out ?_
      refine kX1_isEnough_31 ?_
      refine zb_end (zg_ireturn rfl (by rfl) ?_) rfl
      exact hQ _ _ ⟨Or.inr ⟨k2, rfl⟩, ⟨_, _, _, _, _, hN'⟩, s⟩
  · rcases key with ⟨-, k2⟩ | ⟨k1, -⟩
    · refine zb_go (zg_iconst 1 (by decide)) rfl ?_
      refine zb_end (zg_goto (tgt := 31) (by decide) ?_) rfl
      refine kX1_isEnough_31 ?_
      refine zb_end (zg_ireturn rfl (by rfl) ?_) rfl
      exact hQ _ _ ⟨Or.inl ⟨k2, rfl⟩, ⟨_, _, _, _, _, hN'⟩, s⟩
    · exact absurd ((lg_cmp_gt _ _).mpr ((lL_lt (Nat.lt_of_succ_lt hA) hF').mpr (Nat.not_le.mp k1))) c0
end
