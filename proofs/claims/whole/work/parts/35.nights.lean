/-! NIGHTS (6): seek -/
theorem z_getD {L : List Nat} {i : Nat} (hi : i < L.length) : L.getD i 0 = L[i] := by
  show (L[i]?).getD 0 = _
  rw [List.getElem?_eq_getElem hi]
  rfl
section
variable {K : zK} {l : Launch} {n p q r g f am tn tw : Nat} {x y z : Int32} {P : zP} {se ri ti fe ev mi : Int32} {ch co : Int64} {sets sin : Nat → Int32} {pr lw : Nat → Int64} {m : Nat → Nat}
theorem r_X1_seek (ok : okP P) (htw : tw ≤ 60) (hT : nTab P tw sets sin pr lw) (hm : nMask m co) (ham : am < 64) (htn : tn ≤ 4) : ∀ j, j ≤ 3 → ∀ (k : Nat) (h : zH) (F paid : Nat) (pi : Nat → Int32) (a : Nat → Nat), k + j = 3 → isNights h (se, ri, ti, nI (pRe P), ch, fe, ev, mi, sets, sin, pr, lw, nI am, nI tn, co, lN F, pi) → F < 2 ^ 63 → (∀ g, g < k → pi g = nI (a g)) → paid ≤ k * (13 * 2 ^ 57) →
    zRex K l (j + 2) mX1_seek [.ref 22, .int (nI k), .long (lN paid)] 59 h (fun v h' => v = none ∧ ∃ F' pi', isNights h' (se, ri, ti, nI (pRe P), ch, fe, ev, mi, sets, sin, pr, lw, nI am, nI tn, co, lN F', pi') ∧ (∀ g, g < k → pi' g = pi g) ∧ nMin m P tw am tn k paid a F F' ∧ zSame 22 27 h h') := by
  intro j
  induction j with
  | zero =>
    intro hj k h F paid pi a hkj hN hF hpi hpd
    refine zRex.of (by decide) (Nat.le_of_ble_eq_true rfl) (fun Q hQ => ?_)
    obtain ⟨h1, h2, h3, h4, h5, h6⟩ := id hN
    have hk : k = 3 := by omega
    subst hk
    obtain ⟨L, -, -, -, -, -, -, hlw⟩ := hT 3 (by decide)
    have b1 := nLw_le (g := 3) (s := nOpn am tn (pRe P) a 3 3) ok htw
    have b2 := hm.2.1 (nLw P tw 3 (nOpn am tn (pRe P) a 3 3))
    have e1 : lw (64 * 3 + nOpn am tn (pRe P) a 3 3) = lN (nLw P tw 3 (nOpn am tn (pRe P) a 3 3)) := hlw _ nOpn_lt
    have e0 : nLat m P tw am tn a 3 = 0 := rfl
    refine kX1_seek_0 ?_
    refine zb_go (zg_iload_n rfl) rfl ?_
    refine zb_br (zg_if_lt (tgt := 9) (by decide)) rfl (fun c0 => ?_) (fun c0 => ?_)
    · exact absurd c0 (by decide)
    · refine zb_go (zg_iload_n rfl) rfl ?_
      refine zb_go (zg_iconst 3 (by decide)) rfl ?_
      refine zb_br (zg_icmp_le (tgt := 10) (by decide)) rfl (fun c1 => ?_) (fun c1 => ?_)
      · refine kX1_seek_10 ?_
        refine zb_go (zg_aload_n rfl) rfl ?_
        refine zb_go (zg_iload_n rfl) rfl ?_
        refine zb_callv (r_X1_leastAfter hN ok htw hT hm ham htn hpi (by decide)) lX1_158 (by repeat (first | assumption | exact z_up_self _ _ _ | refine (z_up_ne (by first | decide | omega)).trans ?_)) rfl rfl (by first | assumption | decide | omega) (by first | decide | omega) rfl (Nat.le_of_ble_eq_true rfl) rfl ?_
        refine zb_go (zg_lstore (by decide)) rfl ?_
        refine zb_go (zg_aload_n rfl) rfl ?_
        refine zb_go (zg_iload_n rfl) rfl ?_
        refine zb_go (zg_iload_n rfl) rfl ?_
        refine zb_callv (r_X1_openIn hN (ok.2.2.2.2.1) ham htn hpi (by decide) (by decide) (by decide)) lX1_162 (by repeat (first | assumption | exact z_up_self _ _ _ | refine (z_up_ne (by first | decide | omega)).trans ?_)) rfl rfl (by first | assumption | decide | omega) (by first | decide | omega) rfl (Nat.le_of_ble_eq_true rfl) rfl ?_
        refine zb_go (zg_istore (by decide)) rfl ?_
        refine zb_go (zg_iload_n rfl) rfl ?_
        refine zb_go (zg_bipush 64 (by decide)) rfl ?_
        refine zb_go zg_imul rfl ?_
        refine zb_go (zg_istore (by decide)) rfl ?_
        refine zb_go (zg_lload_n rfl) rfl ?_
        refine zb_go (zg_lload rfl) rfl ?_
        refine zb_go zg_ladd rfl ?_
        refine zb_go (zg_aload_n rfl) rfl ?_
        refine zb_go (zg_getfield fX1_49 (by first | assumption | decide | omega) (by repeat (first | assumption | exact z_up_self _ _ _ | refine (z_up_ne (by first | decide | omega)).trans ?_)) (by rfl)) rfl ?_
        refine zb_go (zg_iload rfl) rfl ?_
        refine zb_go (zg_iload rfl) rfl ?_
        refine zb_go zg_iadd rfl ?_
        refine zb_go (zi_laload (by first | assumption | decide | omega) (by repeat (first | assumption | exact z_up_self _ _ _ | refine (z_up_ne (by first | decide | omega)).trans ?_)) (z_ix64 (by decide) nOpn_lt)) rfl ?_
        rw [e1]
        refine zb_go (zg_aload_n rfl) rfl ?_
        refine zb_go (zg_getfield fX1_60 (by first | assumption | decide | omega) (by repeat (first | assumption | exact z_up_self _ _ _ | refine (z_up_ne (by first | decide | omega)).trans ?_)) (by rfl)) rfl ?_
        refine zb_go zg_land rfl ?_
        rw [hm.1 _ (by omega)]
        refine zb_go zg_ladd rfl ?_
        rw [lN_add, lN_add, e0, Nat.add_zero]
        refine zb_go (zg_lstore (by decide)) rfl ?_
        refine zb_go (zg_lload rfl) rfl ?_
        refine zb_go (zg_aload_n rfl) rfl ?_
        refine zb_go (zg_getfield fX1_65 (by first | assumption | decide | omega) (by repeat (first | assumption | exact z_up_self _ _ _ | refine (z_up_ne (by first | decide | omega)).trans ?_)) (by rfl)) rfl ?_
        refine zb_go zg_lcmp rfl ?_
        refine zb_br (zg_if_lt (tgt := 64) (by decide)) rfl (fun c2 => ?_) (fun c2 => ?_)
        · have c2 := (lL_lt (by omega) hF).mp ((lg_cmp_lt _ _).mp c2)
          refine kX1_seek_64 ?_
          refine zb_go (zg_iload_n rfl) rfl ?_
          refine zb_go (zg_iconst 3 (by decide)) rfl ?_
          refine zb_br (zg_icmp_ne (tgt := 76) (by decide)) rfl (fun c3 => ?_) (fun c3 => ?_)
          · exact absurd rfl c3
          · refine zb_go (zg_aload_n rfl) rfl ?_
            refine zb_go (zg_lload rfl) rfl ?_
            refine zb_go (zg_putfield fX1_65 (by first | assumption | decide | omega) (by repeat (first | assumption | exact z_up_self _ _ _ | refine (z_up_ne (by first | decide | omega)).trans ?_)) (by exact Nat.le_of_ble_eq_true rfl) (by rfl) (by rfl) (by first | exact Or.inl rfl | exact Or.inr ⟨rfl, rfl⟩)) rfl ?_
            refine zb_end (zg_return rfl ?_) rfl
            exact hQ _ _ ⟨rfl, paid + m (nLw P tw 3 (nOpn am tn (pRe P) a 3 3)), pi, ⟨z_up_self _ _ _, (z_up_ne (by decide)).trans h2, (z_up_ne (by decide)).trans h3, (z_up_ne (by decide)).trans h4, (z_up_ne (by decide)).trans h5, (z_up_ne (by decide)).trans h6⟩, fun _ _ => rfl, nMin_last hm.2.2 ok htw c2, zSame.rf.up (by omega) (by omega)⟩
        · have c2 : ¬ paid + m (nLw P tw 3 (nOpn am tn (pRe P) a 3 3)) < F := fun q => c2 ((lg_cmp_lt _ _).mpr ((lL_lt (by omega) hF).mpr q))
          refine zb_end (zg_return rfl ?_) rfl
          exact hQ _ _ ⟨rfl, F, pi, hN, fun _ _ => rfl, nMin_prune hm.2.2 (by decide) (by rw [e0]; omega), zSame.rf⟩
      · exact absurd (by decide) c1
  | succ j ihj =>
    intro hj k h F paid pi a hkj hN hF hpi hpd
    refine zRex.of (by decide) (Nat.le_of_ble_eq_true rfl) (fun Q hQ => ?_)
    obtain ⟨h1, h2, h3, h4, h5, h6⟩ := id hN
    have hk2 : k ≤ 2 := by omega
    obtain ⟨L, hsin, hL64, hsets, hmem, hsort, hpr, hlw⟩ := hT k (by omega)
    have b1 := nLw_le (g := k) (s := nOpn am tn (pRe P) a k k) ok htw
    have b2 := hm.2.1 (nLw P tw k (nOpn am tn (pRe P) a k k))
    have e1 : lw (64 * k + nOpn am tn (pRe P) a k k) = lN (nLw P tw k (nOpn am tn (pRe P) a k k)) := hlw _ nOpn_lt
    have b3 : nLat m P tw am tn a k ≤ (3 - k) * (13 * 2 ^ 57) := zsum_le (fun i _ => Nat.le_trans (hm.2.1 _) (nLw_le ok htw))
    have bb : k * (13 * 2 ^ 57) + (3 - k) * (13 * 2 ^ 57) = 39 * 2 ^ 57 := by
      rw [← Nat.add_mul, show k + (3 - k) = 3 by omega]
    have hop := nOpn_lt (am := am) (tn := tn) (re := pRe P) (k := k) (f := k) (a := a)
    refine kX1_seek_0 ?_
    refine zb_go (zg_iload_n rfl) rfl ?_
    refine zb_br (zg_if_lt (tgt := 9) (by decide)) rfl (fun c0 => ?_) (fun c0 => ?_)
    · exact absurd c0 (nI_pos (by omega))
    · refine zb_go (zg_iload_n rfl) rfl ?_
      refine zb_go (zg_iconst 3 (by decide)) rfl ?_
      refine zb_br (zg_icmp_le (tgt := 10) (by decide)) rfl (fun c1 => ?_) (fun c1 => ?_)
      · refine kX1_seek_10 ?_
        refine zb_go (zg_aload_n rfl) rfl ?_
        refine zb_go (zg_iload_n rfl) rfl ?_
        refine zb_callv (r_X1_leastAfter hN ok htw hT hm ham htn hpi (by omega)) lX1_158 (by repeat (first | assumption | exact z_up_self _ _ _ | refine (z_up_ne (by first | decide | omega)).trans ?_)) rfl rfl (by first | assumption | decide | omega) (by first | decide | omega) rfl (Nat.le_of_ble_eq_true rfl) rfl ?_
        refine zb_go (zg_lstore (by decide)) rfl ?_
        refine zb_go (zg_aload_n rfl) rfl ?_
        refine zb_go (zg_iload_n rfl) rfl ?_
        refine zb_go (zg_iload_n rfl) rfl ?_
        refine zb_callv (r_X1_openIn hN (ok.2.2.2.2.1) ham htn hpi (by omega) (by omega) (by omega)) lX1_162 (by repeat (first | assumption | exact z_up_self _ _ _ | refine (z_up_ne (by first | decide | omega)).trans ?_)) rfl rfl (by first | assumption | decide | omega) (by first | decide | omega) rfl (Nat.le_of_ble_eq_true rfl) rfl ?_
        refine zb_go (zg_istore (by decide)) rfl ?_
        refine zb_go (zg_iload_n rfl) rfl ?_
        refine zb_go (zg_bipush 64 (by decide)) rfl ?_
        refine zb_go zg_imul rfl ?_
        refine zb_go (zg_istore (by decide)) rfl ?_
        refine zb_go (zg_lload_n rfl) rfl ?_
        refine zb_go (zg_lload rfl) rfl ?_
        refine zb_go zg_ladd rfl ?_
        refine zb_go (zg_aload_n rfl) rfl ?_
        refine zb_go (zg_getfield fX1_49 (by first | assumption | decide | omega) (by repeat (first | assumption | exact z_up_self _ _ _ | refine (z_up_ne (by first | decide | omega)).trans ?_)) (by rfl)) rfl ?_
        refine zb_go (zg_iload rfl) rfl ?_
        refine zb_go (zg_iload rfl) rfl ?_
        refine zb_go zg_iadd rfl ?_
        refine zb_go (zi_laload (by first | assumption | decide | omega) (by repeat (first | assumption | exact z_up_self _ _ _ | refine (z_up_ne (by first | decide | omega)).trans ?_)) (z_ix64 (by omega) nOpn_lt)) rfl ?_
        rw [e1]
        refine zb_go (zg_aload_n rfl) rfl ?_
        refine zb_go (zg_getfield fX1_60 (by first | assumption | decide | omega) (by repeat (first | assumption | exact z_up_self _ _ _ | refine (z_up_ne (by first | decide | omega)).trans ?_)) (by rfl)) rfl ?_
        refine zb_go zg_land rfl ?_
        rw [hm.1 _ (by omega)]
        refine zb_go zg_ladd rfl ?_
        rw [lN_add, lN_add]
        refine zb_go (zg_lstore (by decide)) rfl ?_
        refine zb_go (zg_lload rfl) rfl ?_
        refine zb_go (zg_aload_n rfl) rfl ?_
        refine zb_go (zg_getfield fX1_65 (by first | assumption | decide | omega) (by repeat (first | assumption | exact z_up_self _ _ _ | refine (z_up_ne (by first | decide | omega)).trans ?_)) (by rfl)) rfl ?_
        refine zb_go zg_lcmp rfl ?_
        refine zb_br (zg_if_lt (tgt := 64) (by decide)) rfl (fun c2 => ?_) (fun c2 => ?_)
        · have c2 := (lL_lt (by omega) hF).mp ((lg_cmp_lt _ _).mp c2)
          have mem : ∀ i, i < L.length → L.getD i 0 < 64 ∧ (nPrice P tw k (L.getD i 0)).isSome = true := fun i hi => (hmem _).mp (by rw [z_getD hi]; exact List.getElem_mem hi)
          have idx : ∀ b, nRest P tw am tn k b → ∃ j, j < L.length ∧ L.getD j 0 = b k := by
            intro b hb
            have g := hb k (Nat.le_refl _) (by omega)
            obtain ⟨j, hj, e⟩ := List.getElem_of_mem ((hmem (b k)).mpr ⟨g.1, g.2.1⟩)
            exact ⟨j, hj, by rw [z_getD hj]; exact e⟩
          have srt : ∀ i j, i ≤ j → j < L.length → m (nPr P tw k (L.getD i 0)) ≤ m (nPr P tw k (L.getD j 0)) := by
            intro i j hij hj
            have := hsort i j hij hj
            have e0 := (mem i (by omega)).2
            have e1 := (mem j hj).2
            refine hm.2.2 _ _ ?_
            unfold nPr
            cases q0 : nPrice P tw k (L.getD i 0) with
            | none => rw [q0] at e0; cases e0
            | some x =>
              cases q1 : nPrice P tw k (L.getD j 0) with
              | none => rw [q1] at e1; cases e1
              | some y => rw [q0, q1] at this; exact this
          have lp : ∀ i, i ≤ L.length → ∀ (h0 : zH) (Fi : Nat) (pi0 : Nat → Int32) (z : List (Nat × Value)), isNights h0 (se, ri, ti, nI (pRe P), ch, fe, ev, mi, sets, sin, pr, lw, nI am, nI tn, co, lN Fi, pi0) → Fi < 2 ^ 63 → (∀ g, g < k → pi0 g = pi g) → nMinI m P tw am tn k paid a (fun t => ∃ j, j < i ∧ L.getD j 0 = t) F Fi → zSame 22 27 h h0 → (z = [] ∨ ∃ v w, z = [(11, Value.int v), (12, Value.long w)]) → zGo K l (j + 1 + 2) mX1_seek 79 ([(0, .ref 22), (1, .int (nI k)), (2, .long (lN paid)), (4, .long (lN (nLat m P tw am tn a k))), (6, .int (nI (nOpn am tn (pRe P) a k k))), (7, .int (nI k * 64)), (8, .long (lN (paid + nLat m P tw am tn a k + m (nLw P tw k (nOpn am tn (pRe P) a k k))))), (10, .int (nI i))] ++ z) [] 59 h0 0 0 Q := by
            refine z_down L.length (fun i hi ih h0 Fi pi0 z hN0 hFi hp0 hI hs0 hz => ?_)
            obtain ⟨g1, g2, g3, g4, g5, g6⟩ := id hN0
            refine zg_keep [0, 1, 2, 4, 6, 7, 8, 10] ?_
            have el : ((([(0, .ref 22), (1, .int (nI k)), (2, .long (lN paid)), (4, .long (lN (nLat m P tw am tn a k))), (6, .int (nI (nOpn am tn (pRe P) a k k))), (7, .int (nI k * 64)), (8, .long (lN (paid + nLat m P tw am tn a k + m (nLw P tw k (nOpn am tn (pRe P) a k k))))), (10, .int (nI i))] : List (Nat × Value)) ++ z).filter (fun q => [0, 1, 2, 4, 6, 7, 8, 10].contains q.1)) = [(0, .ref 22), (1, .int (nI k)), (2, .long (lN paid)), (4, .long (lN (nLat m P tw am tn a k))), (6, .int (nI (nOpn am tn (pRe P) a k k))), (7, .int (nI k * 64)), (8, .long (lN (paid + nLat m P tw am tn a k + m (nLw P tw k (nOpn am tn (pRe P) a k k))))), (10, .int (nI i))] := by
              rcases hz with rfl | ⟨v, w, rfl⟩ <;> rfl
            rw [el]
            refine kX1_seek_79 ?_
            refine zb_go (zg_iload rfl) rfl ?_
            refine zb_go (zg_aload_n rfl) rfl ?_
            refine zb_go (zg_getfield fX1_42 (by first | assumption | decide | omega) (by repeat (first | assumption | exact z_up_self _ _ _ | refine (z_up_ne (by first | decide | omega)).trans ?_)) (by rfl)) rfl ?_
            refine zb_go (zg_iload_n rfl) rfl ?_
            refine zb_go (zi_iaload (by first | assumption | decide | omega) (by repeat (first | assumption | exact z_up_self _ _ _ | refine (z_up_ne (by first | decide | omega)).trans ?_)) (zIx.nI (show k < 4 by omega) (by decide))) rfl ?_
            refine zb_br (zg_icmp_ge (tgt := 178) (by decide)) rfl (fun c3 => ?_) (fun c3 => ?_)
            · rw [hsin] at c3
              have e : i = L.length := by
                have := (nI_leI (a := L.length) (b := i) (by omega) (by omega)).mp c3
                omega
              subst e
              refine kX1_seek_178 ?_
              refine zb_end (zg_return rfl ?_) rfl
              exact hQ _ _ ⟨rfl, Fi, pi0, hN0, hp0, nMinI_all (by omega) hI (fun b ha hb q => absurd (idx b hb) q), hs0⟩
            · rw [hsin] at c3
              have hil : i < L.length := Nat.not_le.mp (fun q => c3 (nI_le q (by omega)))
              obtain ⟨hs64, hsome⟩ := mem i hil
              have ese := hsets i hil
              have epr : pr (64 * k + L.getD i 0) = lN (nPr P tw k (L.getD i 0)) := hpr _ hs64
              have bp := nPr_some ok htw hsome
              have bp2 := hm.2.1 (nPr P tw k (L.getD i 0))
              refine zb_go (zg_aload_n rfl) rfl ?_
              refine zb_go (zg_getfield fX1_38 (by first | assumption | decide | omega) (by repeat (first | assumption | exact z_up_self _ _ _ | refine (z_up_ne (by first | decide | omega)).trans ?_)) (by rfl)) rfl ?_
              refine zb_go (zg_iload rfl) rfl ?_
              refine zb_go (zg_iload rfl) rfl ?_
              refine zb_go zg_iadd rfl ?_
              refine zb_go (zi_iaload (by first | assumption | decide | omega) (by repeat (first | assumption | exact z_up_self _ _ _ | refine (z_up_ne (by first | decide | omega)).trans ?_)) (z_ix64 (show k < 4 by omega) (show i < 64 by omega))) rfl ?_
              rw [ese]
              refine zb_go (zg_istore (by decide)) rfl ?_
              refine zb_go (zg_lload_n rfl) rfl ?_
              refine zb_go (zg_aload_n rfl) rfl ?_
              refine zb_go (zg_getfield fX1_45 (by first | assumption | decide | omega) (by repeat (first | assumption | exact z_up_self _ _ _ | refine (z_up_ne (by first | decide | omega)).trans ?_)) (by rfl)) rfl ?_
              refine zb_go (zg_iload rfl) rfl ?_
              refine zb_go (zg_iload rfl) rfl ?_
              refine zb_go zg_iadd rfl ?_
              refine zb_go (zi_laload (by first | assumption | decide | omega) (by repeat (first | assumption | exact z_up_self _ _ _ | refine (z_up_ne (by first | decide | omega)).trans ?_)) (z_ix64 (show k < 4 by omega) hs64)) rfl ?_
              rw [epr]
              refine zb_go (zg_aload_n rfl) rfl ?_
              refine zb_go (zg_getfield fX1_60 (by first | assumption | decide | omega) (by repeat (first | assumption | exact z_up_self _ _ _ | refine (z_up_ne (by first | decide | omega)).trans ?_)) (by rfl)) rfl ?_
              refine zb_go zg_land rfl ?_
              rw [hm.1 _ (by omega)]
              refine zb_go zg_ladd rfl ?_
              rw [lN_add]
              refine zb_go (zg_lstore (by decide)) rfl ?_
              refine zb_go (zg_lload rfl) rfl ?_
              refine zb_go (zg_lload rfl) rfl ?_
              refine zb_go zg_ladd rfl ?_
              rw [lN_add]
              refine zb_go (zg_aload_n rfl) rfl ?_
              refine zb_go (zg_getfield fX1_65 (by first | assumption | decide | omega) (by repeat (first | assumption | exact z_up_self _ _ _ | refine (z_up_ne (by first | decide | omega)).trans ?_)) (by rfl)) rfl ?_
              refine zb_go zg_lcmp rfl ?_
              refine zb_br (zg_if_ge (tgt := 144) (by decide)) rfl (fun c5 => ?_) (fun c5 => ?_)
              · have c5 := (lL_le hFi (by omega)).mp ((lg_cmp_ge _ _).mp c5)
                refine kX1_seek_144 ?_
                refine zb_end (zg_return rfl ?_) rfl
                refine hQ _ _ ⟨rfl, Fi, pi0, hN0, hp0, nMinI_all (by omega) hI (fun b ha hb q => ?_), hs0⟩
                obtain ⟨j, hj, e⟩ := idx b hb
                have hij : i ≤ j := Nat.not_lt.mp (fun z => q ⟨j, z, e⟩)
                have s1 := srt i j hij hj
                have s2 := nLat_le (am := am) (tn := tn) (a := a) hm.2.2 (show k < 4 by omega) (fun j hj => (ha j hj).symm) (fun g h1 h2 => hb g (by omega) h2)
                rw [nCost_step (show k < 4 by omega), ← e]
                omega
              · refine zb_go (zg_lload rfl) rfl ?_
                refine zb_go (zg_aload_n rfl) rfl ?_
                refine zb_go (zg_getfield fX1_65 (by first | assumption | decide | omega) (by repeat (first | assumption | exact z_up_self _ _ _ | refine (z_up_ne (by first | decide | omega)).trans ?_)) (by rfl)) rfl ?_
                refine zb_go zg_lcmp rfl ?_
                refine zb_br (zg_if_lt (tgt := 145) (by decide)) rfl (fun c6 => ?_) (fun c6 => ?_)
                · refine kX1_seek_145 ?_
                  refine zb_go (zg_iload rfl) rfl ?_
                  refine zb_go (zg_iload rfl) rfl ?_
                  refine zb_go (zg_iconst (-1) (by decide)) rfl ?_
                  refine zb_go zg_ixor rfl ?_
                  refine zb_go zg_iand rfl ?_
                  rw [z_andn]
                  have hext : ∀ t, (∃ j, j < i + 1 ∧ L.getD j 0 = t) → (∃ j, j < i ∧ L.getD j 0 = t) ∨ t = L.getD i 0 := by
                    rintro t ⟨j, hj, e⟩
                    rcases Nat.lt_or_ge j i with w | w
                    · exact Or.inl ⟨j, w, e⟩
                    · exact Or.inr (by rw [← e, show j = i by omega])
                  have imp : ∀ {F2}, nMinI m P tw am tn k paid a (fun t => (∃ j, j < i ∧ L.getD j 0 = t) ∨ t = L.getD i 0) F F2 → nMinI m P tw am tn k paid a (fun t => ∃ j, j < i + 1 ∧ L.getD j 0 = t) F F2 := fun q => ⟨q.1, fun b ha hb w => q.2.1 b ha hb (hext _ w), q.2.2⟩
                  have hzl : zdif (L.getD i 0) (nOpn am tn (pRe P) a k k) < 2 ^ 31 := Nat.lt_of_lt_of_le (Nat.lt_pow_two_of_testBit (n := 6) _ (fun i' hi' => by
                    rw [zdif_bit, Nat.testBit_lt_two_pow (Nat.lt_of_lt_of_le hs64 (Nat.pow_le_pow_right (n := 2) (by decide) hi')), Bool.false_and])) (by decide)
                  refine zb_br (zg_if_ne (tgt := 172) (by decide)) rfl (fun c7 => ?_) (fun c7 => ?_)
                  · have c7 : zdif (L.getD i 0) (nOpn am tn (pRe P) a k k) ≠ 0 := fun w => c7 (by rw [w]; rfl)
                    refine kX1_seek_172 ?_
                    refine zb_go (zg_iinc 1 (by decide) rfl (by decide)) rfl ?_
                    refine zb_end (zg_goto (tgt := 79) (by decide) ?_) rfl
                    rw [nI_1]
                    exact ih hil h0 Fi pi0 _ hN0 hFi hp0 (imp (nMinI_skip (by omega) hI c7)) hs0 (Or.inr ⟨_, _, rfl⟩)
                  · have c7 : zdif (L.getD i 0) (nOpn am tn (pRe P) a k k) = 0 := (nI_eq hzl (by decide)).mp c7
                    have hN1 : isNights (z_up h0 27 (.inl (0, 4, .inl (upd pi0 k (nI (L.getD i 0)))))) (se, ri, ti, nI (pRe P), ch, fe, ev, mi, sets, sin, pr, lw, nI am, nI tn, co, lN Fi, upd pi0 k (nI (L.getD i 0))) := ⟨(z_up_ne (by decide)).trans g1, (z_up_ne (by decide)).trans g2, (z_up_ne (by decide)).trans g3, (z_up_ne (by decide)).trans g4, (z_up_ne (by decide)).trans g5, z_up_self _ _ _⟩
                    refine zb_go (zg_aload_n rfl) rfl ?_
                    refine zb_go (zg_getfield fX1_68 (by first | assumption | decide | omega) (by repeat (first | assumption | exact z_up_self _ _ _ | refine (z_up_ne (by first | decide | omega)).trans ?_)) (by rfl)) rfl ?_
                    refine zb_go (zg_iload_n rfl) rfl ?_
                    refine zb_go (zg_iload rfl) rfl ?_
                    refine zb_go (zi_iastore (by first | assumption | decide | omega) (by repeat (first | assumption | exact z_up_self _ _ _ | refine (z_up_ne (by first | decide | omega)).trans ?_)) (zIx.nI (show k < 4 by omega) (by decide))) rfl ?_
                    refine zb_go (zg_aload_n rfl) rfl ?_
                    refine zb_go (zg_iload_n rfl) rfl ?_
                    refine zb_go (zg_iconst 1 (by decide)) rfl ?_
                    refine zb_go zg_iadd rfl ?_
                    rw [nI_1]
                    refine zb_go (zg_lload rfl) rfl ?_
                    refine zb_callsx (ihj (by omega) (k + 1) _ Fi (paid + m (nPr P tw k (L.getD i 0))) (upd pi0 k (nI (L.getD i 0))) (zupd a k (L.getD i 0)) (by omega) hN1 hFi (z_updI (fun g hg => (hp0 g hg).trans (hpi g hg))) (by omega)) lX1_154 rfl (by first | decide | omega) rfl (Nat.le_of_ble_eq_true rfl) rfl ?_
                    rintro v h6 ⟨rfl, F2, pi2, hN2, hp2, hM, sm2⟩
                    refine zb_out ?_
                    refine kX1_seek_172 ?_
                    refine zb_go (zg_iinc 1 (by decide) rfl (by decide)) rfl ?_
                    refine zb_end (zg_goto (tgt := 79) (by decide) ?_) rfl
                    rw [nI_1]
                    exact ih hil h6 F2 pi2 _ hN2 (Nat.lt_of_le_of_lt hM.1 hFi) (fun g hg => (hp2 g (by omega)).trans ((pk_un (by omega)).trans (hp0 g hg))) (imp (nMinI_step (by omega) hI hs64 hsome c7 hM)) ((hs0.up (by omega) (by omega)).trans sm2) (Or.inr ⟨_, _, rfl⟩)
                · have c6 : Fi ≤ paid + nLat m P tw am tn a k + m (nLw P tw k (nOpn am tn (pRe P) a k k)) := by
                    rcases Nat.lt_or_ge (paid + nLat m P tw am tn a k + m (nLw P tw k (nOpn am tn (pRe P) a k k))) Fi with w | w
                    · exact absurd ((lg_cmp_lt _ _).mpr ((lL_lt (by omega) hFi).mpr w)) c6
                    · exact w
                  refine zb_out ?_
                  refine kX1_seek_144 ?_
                  refine zb_end (zg_return rfl ?_) rfl
                  refine hQ _ _ ⟨rfl, Fi, pi0, hN0, hp0, nMinI_all (by omega) hI (fun b ha hb q => ?_), hs0⟩
                  have := nCost_ge hm.2.2 (show k < 4 by omega) ha hb
                  omega
          refine kX1_seek_64 ?_
          refine zb_go (zg_iload_n rfl) rfl ?_
          refine zb_go (zg_iconst 3 (by decide)) rfl ?_
          refine zb_br (zg_icmp_ne (tgt := 76) (by decide)) rfl (fun c3 => ?_) (fun c3 => ?_)
          · refine kX1_seek_76 ?_
            refine zb_go (zg_iconst 0 (by decide)) rfl ?_
            refine zb_go (zg_istore (by decide)) rfl ?_
            refine zb_out ?_
            exact lp 0 (Nat.zero_le _) h F pi [] hN hF (fun _ _ => rfl) ⟨Nat.le_refl _, fun b ha hb q => by obtain ⟨j, w, -⟩ := q; exact absurd w (Nat.not_lt_zero _), Or.inl rfl⟩ zSame.rf (Or.inl rfl)
          · have := (nI_eq (a := k) (b := 3) (by omega) (by decide)).mp c3
            omega
        · have c2 : ¬ paid + nLat m P tw am tn a k + m (nLw P tw k (nOpn am tn (pRe P) a k k)) < F := fun q => c2 ((lg_cmp_lt _ _).mpr ((lL_lt (by omega) hF).mpr q))
          refine zb_end (zg_return rfl ?_) rfl
          exact hQ _ _ ⟨rfl, F, pi, hN, fun _ _ => rfl, nMin_prune hm.2.2 (by omega) (by omega), zSame.rf⟩
      · exact absurd (nI_le (a := k) (b := 3) (by omega) (by decide)) c1
end
