/-! THE CLASS (9): parish -/
def tNew (P : zP) : zT := (fun _ _ => 0, pTw P, fun _ => 0)
def gNew (G : zS) (P : zP) : zS := (0, gTx G, P, tNew P, fun _ => false, gI G, gTr G)
def sParish (G : zS) : Int32 × zS := match pParse (gTx G) (gLen G) with
  | .inl x => (-10 - nI x, G)
  | .inr (m, P) => (nI m, gNew G P)
theorem okT_new {P : zP} (ok : okP P) : okT P (tNew P) := ⟨fun r g _ _ q => absurd rfl q, fun r q g _ _ _ z => absurd rfl z, fun r _ => Nat.zero_le _, fun r g k _ _ _ _ q => absurd rfl q, ok.2.2.1, fun g _ => Nat.zero_le _⟩
theorem okS_new {G : zS} {P : zP} (ok : okP P) : okS (gNew G P) := ⟨ok, okT_new ok, fun i _ q => absurd (show false = true from q) (by decide), Nat.zero_le _⟩
def nUp (N : zN) : zN := (0, N.2.1, N.2.2.1, N.2.2.2.1, N.2.2.2.2.1, -1, -1, -1, N.2.2.2.2.2.2.2.2)
theorem nOK_up (P : zP) (tw : Nat) (N : zN) : nOK P tw (nUp N) := by
  obtain ⟨se, ri, ti, re, ch, fe, ev, mi, r⟩ := N
  exact ⟨Or.inl rfl, Or.inl rfl, Or.inl rfl, Or.inl rfl⟩
section
variable {K : zK} {l : Launch} {n p q r g : Nat} {h : zH} {x y z : Int32} {G : zS} {P : zP}
theorem r_X1_forParish {N : zN} (hN : isNights h N) : zRex K l 0 mX1_forParish [.ref 22] 59 h (fun v h' => v = none ∧ isNights h' (nUp N) ∧ zSame 22 22 h h') := by
  refine zRex.of (by decide) (Nat.le_of_ble_eq_true rfl) (fun Q hQ => ?_)
  obtain ⟨se, ri, ti, re, ch, fe, ev, mi, sets, sin, pr, lw, am, tn, co, fo, pi⟩ := N
  obtain ⟨h1, h2, h3, h4, h5, h6⟩ := hN
  refine kX1_forParish_0 ?_
  refine zb_go (zg_aload_n rfl) rfl ?_
  refine zb_go (zg_iconst 0 (by decide)) rfl ?_
  refine zb_go (zg_putfield fX1_11 (by first | assumption | decide | omega) (by repeat (first | assumption | exact z_up_self _ _ _ | refine (z_up_ne (by first | decide | omega)).trans ?_)) (by exact Nat.le_of_ble_eq_true rfl) (by rfl) (by rfl) (by first | exact Or.inl rfl | exact Or.inr ⟨rfl, rfl⟩)) rfl ?_
  refine zb_go (zg_aload_n rfl) rfl ?_
  refine zb_go (zg_iconst (-1) (by decide)) rfl ?_
  refine zb_go (zg_putfield fX1_29 (by first | assumption | decide | omega) (by repeat (first | assumption | exact z_up_self _ _ _ | refine (z_up_ne (by first | decide | omega)).trans ?_)) (by exact Nat.le_of_ble_eq_true rfl) (by rfl) (by rfl) (by first | exact Or.inl rfl | exact Or.inr ⟨rfl, rfl⟩)) rfl ?_
  refine zb_go (zg_aload_n rfl) rfl ?_
  refine zb_go (zg_iconst (-1) (by decide)) rfl ?_
  refine zb_go (zg_putfield fX1_32 (by first | assumption | decide | omega) (by repeat (first | assumption | exact z_up_self _ _ _ | refine (z_up_ne (by first | decide | omega)).trans ?_)) (by exact Nat.le_of_ble_eq_true rfl) (by rfl) (by rfl) (by first | exact Or.inl rfl | exact Or.inr ⟨rfl, rfl⟩)) rfl ?_
  refine zb_go (zg_aload_n rfl) rfl ?_
  refine zb_go (zg_iconst (-1) (by decide)) rfl ?_
  refine zb_go (zg_putfield fX1_35 (by first | assumption | decide | omega) (by repeat (first | assumption | exact z_up_self _ _ _ | refine (z_up_ne (by first | decide | omega)).trans ?_)) (by exact Nat.le_of_ble_eq_true rfl) (by rfl) (by rfl) (by first | exact Or.inl rfl | exact Or.inr ⟨rfl, rfl⟩)) rfl ?_
  refine zb_end (zg_return rfl ?_) rfl
  rw [z_up_up, z_up_up, z_up_up]
  exact hQ _ _ ⟨rfl, ⟨z_up_self _ _ _, (z_up_ne (by decide)).trans h2, (z_up_ne (by decide)).trans h3, (z_up_ne (by decide)).trans h4, (z_up_ne (by decide)).trans h5, (z_up_ne (by decide)).trans h6⟩, zSame.rf.up (by omega) (by omega)⟩
theorem isPar.two {h1 : zH} (hP : isPar h p P) (s : zSame2 q h h1) (hpq : p + 5 < q ∨ q + 5 < p) (hp5 : 5 ≤ p) : isPar h1 p P := by
  obtain ⟨a1, ⟨f1, a2, b2⟩, ⟨f2, a3, b3⟩, ⟨f3, a4, b4⟩, ⟨f4, a5, b5⟩, ⟨f5, a6, b6⟩⟩ := hP
  exact ⟨(s _ (by omega) (by omega)).trans a1, ⟨f1, (s _ (by omega) (by omega)).trans a2, b2⟩, ⟨f2, (s _ (by omega) (by omega)).trans a3, b3⟩, ⟨f3, (s _ (by omega) (by omega)).trans a4, b4⟩, ⟨f4, (s _ (by omega) (by omega)).trans a5, b5⟩, ⟨f5, (s _ (by omega) (by omega)).trans a6, b6⟩⟩
theorem zSame2.wide {h1 : zH} (s : zSame2 q h h1) (hq : q = 5 ∨ q = 11) : zSame 1 16 h h1 := fun k hk => s k (by omega) (by omega)
theorem cImg.none {i a : Nat} (hI : cImg h G i a) : cImg h (gNew G P) i a := ⟨hI.1, fun q => absurd (show false = true from q) (by decide)⟩
theorem r_X5_parish (hK : zKok K) (hC : cRel h G) (ok : okS G) : zRex K l 8 mX5_parish [.ref 0] 59 h (fun v h' => v = some (.int (sParish G).1) ∧ cRel h' (sParish G).2 ∧ okS (sParish G).2 ∧ zSame 0 33 h h') := by
  refine zRex.of (by decide) (Nat.le_of_ble_eq_true rfl) (fun Q hQ => ?_)
  obtain ⟨p, q, P', N, kf, hpq, hat, ⟨pl, fa, tx, nu, to, hs, etx⟩, hp, hq, hR, ⟨fi, hfi, hfi2⟩, hkf, hk2, hN, hNo, hi0, hi1⟩ := id hC
  have hat' : h 0 = _ := hat
  have hsc1 := hs.1
  have kl := ok.2.2.2
  have hl0 : (0 : Int32) = nI 0 := rfl
  refine kX5_parish_0 ?_
  refine zb_go (zg_aload_n rfl) rfl ?_
  refine zb_go (zg_getfield fX5_10 (by first | assumption | decide | omega) (by repeat (first | assumption | exact z_up_self _ _ _ | refine (z_up_ne (by first | decide | omega)).trans ?_)) (by rfl)) rfl ?_
  refine zb_go (zg_aload_n rfl) rfl ?_
  refine zb_go (zg_getfield fX5_23 (by first | assumption | decide | omega) (by repeat (first | assumption | exact z_up_self _ _ _ | refine (z_up_ne (by first | decide | omega)).trans ?_)) (by rfl)) rfl ?_
  refine zb_callvx (r_X4_read (f := gTx G) hK hs kl etx hq (by omega) (by omega)) lX5_63 (by repeat (first | assumption | exact z_up_self _ _ _ | refine (z_up_ne (by first | decide | omega)).trans ?_)) rfl rfl (by first | assumption | decide | omega) (by decide) rfl (Nat.le_of_ble_eq_true rfl) rfl ?_
  rintro v h1 ⟨sm, ⟨pl1, fa1, nu1, to1, hs1⟩, hR1⟩
  have sw := sm.wide (show q = 5 ∨ q = 11 by omega)
  have gat : h1 0 = _ := (sw 0 (by omega)).trans hat'
  have pb := pItems_ok (f := gTx G) (len := gLen G) 200 (to := fun _ => false) (m := 0) okP_0 (pSk_le (f := gTx G) (i := 0) (Nat.zero_le _))
  unfold sParish at hQ
  cases e : pParse (gTx G) (gLen G) with
  | inl x =>
    rw [e] at hR1 hQ
    obtain ⟨rfl, P1, hP1⟩ := hR1
    have hx : x ≤ gLen G := by
      unfold pParse at e
      rw [e] at pb
      exact pb
    have neg : ¬ 0 ≤ -10 - nI x := by
      rw [Int32.sub_eq_add_neg, Int32.le_iff_toInt_le]
      have e1 : (nI x).toInt = x := nI_toInt (by omega)
      have e2 : (-nI x).toInt = -(x : Int) := by
        rw [Int32.toInt_neg, e1]
        exact Int.bmod_eq_of_le (by omega) (by omega)
      rw [Int32.toInt_add, e2, show (-10 : Int32).toInt = -10 by decide, show (0 : Int32).toInt = 0 by decide, Int.bmod_eq_of_le (by omega) (by omega)]
      omega
    refine zb_go (zg_istore_n (by decide)) rfl ?_
    refine zb_go (zg_iload_n rfl) rfl ?_
    refine zb_br (zg_if_ge (tgt := 18) (by decide)) rfl (fun c0 => ?_) (fun c0 => ?_)
    · exact absurd c0 neg
    · refine zb_go (zg_iload_n rfl) rfl ?_
      refine zb_end (zg_ireturn rfl (by rfl) ?_) rfl
      exact hQ _ _ ⟨rfl, ⟨p, q, P1, N, kf, hpq, gat, ⟨_, _, _, _, _, hs1, etx⟩, hp.two sm (by omega) (by omega), hP1, hR.same sw (by omega), ⟨fi, (sw 20 (by omega)).trans hfi, hfi2⟩, (sw 21 (by omega)).trans hkf, hk2, hN.same sw (by omega), hNo, hi0.same sw (by omega), hi1.same sw (by omega)⟩, ok, sw.wide (by omega) (by omega)⟩
  | inr r =>
    obtain ⟨m, P⟩ := r
    rw [e] at hR1 hQ
    obtain ⟨rfl, hP1⟩ := hR1
    obtain ⟨okp, hm⟩ : okP P ∧ m ≤ 0 + 200 := by
      unfold pParse at e
      rw [e] at pb
      exact pb
    have hP1 : isPar h1 q P := hP1
    refine zb_go (zg_istore_n (by decide)) rfl ?_
    refine zb_go (zg_iload_n rfl) rfl ?_
    refine zb_br (zg_if_ge (tgt := 18) (by decide)) rfl (fun c0 => ?_) (fun c0 => ?_)
    · refine kX5_parish_18 ?_
      refine zb_go (zg_aload_n rfl) rfl ?_
      refine zb_go (zg_getfield fX5_19 (by first | assumption | decide | omega) (by repeat (first | assumption | exact z_up_self _ _ _ | refine (z_up_ne (by first | decide | omega)).trans ?_)) (by rfl)) rfl ?_
      refine zb_go (zg_astore_n (by decide)) rfl ?_
      refine zb_go (zg_aload_n rfl) rfl ?_
      refine zb_go (zg_aload_n rfl) rfl ?_
      refine zb_go (zg_getfield fX5_23 (by first | assumption | decide | omega) (by repeat (first | assumption | exact z_up_self _ _ _ | refine (z_up_ne (by first | decide | omega)).trans ?_)) (by rfl)) rfl ?_
      refine zb_go (zg_putfield fX5_19 (by first | assumption | decide | omega) (by repeat (first | assumption | exact z_up_self _ _ _ | refine (z_up_ne (by first | decide | omega)).trans ?_)) (by exact Nat.le_of_ble_eq_true rfl) (by rfl) (by rfl) (by first | exact Or.inl rfl | exact Or.inr ⟨rfl, rfl⟩)) rfl ?_
      refine zb_go (zg_aload_n rfl) rfl ?_
      refine zb_go (zg_aload_n rfl) rfl ?_
      refine zb_go (zg_putfield fX5_23 (by first | assumption | decide | omega) (by repeat (first | assumption | exact z_up_self _ _ _ | refine (z_up_ne (by first | decide | omega)).trans ?_)) (by exact Nat.le_of_ble_eq_true rfl) (by rfl) (by rfl) (by first | exact Or.inl rfl | exact Or.inr ⟨rfl, rfl⟩)) rfl ?_
      rw [z_up_up]
      simp only [List.set_cons_succ, List.set_cons_zero]
      have sA : zSame 0 0 h1 (z_up h1 0 (.inr (4, [.ref 1, .ref q, .ref p, .ref 17, .ref 20, .ref 21, .ref 22, .long (gTr G)]))) := zSame.rf.up (by omega) (by omega)
      have gA : z_up h1 0 (.inr (4, [.ref 1, .ref q, .ref p, .ref 17, .ref 20, .ref 21, .ref 22, .long (gTr G)])) 0 = _ := z_up_self _ _ _
      have hsA : isScript (z_up h1 0 (.inr (4, [.ref 1, .ref q, .ref p, .ref 17, .ref 20, .ref 21, .ref 22, .long (gTr G)]))) (nI (gLen G)) pl1 fa1 tx nu1 to1 := ⟨(z_up_ne (by decide)).trans hs1.1, (z_up_ne (by decide)).trans hs1.2.1, (z_up_ne (by decide)).trans hs1.2.2.1, (z_up_ne (by decide)).trans hs1.2.2.2⟩
      generalize z_up h1 0 (.inr (4, [.ref 1, .ref q, .ref p, .ref 17, .ref 20, .ref 21, .ref 22, .long (gTr G)])) = h2 at sA gA hsA
      have hPA := hP1.same sA (by omega)
      have hpA := (hp.two sm (by omega) (by omega)).same sA (by omega)
      have k1 := hsA.1
      refine zb_go (zg_aload_n rfl) rfl ?_
      refine zb_go (zg_getfield fX5_10 (by first | assumption | decide | omega) (by repeat (first | assumption | exact z_up_self _ _ _ | refine (z_up_ne (by first | decide | omega)).trans ?_)) (by rfl)) rfl ?_
      refine zb_callvx (r_X4_empty hsA) lX5_60 (by repeat (first | assumption | exact z_up_self _ _ _ | refine (z_up_ne (by first | decide | omega)).trans ?_)) rfl rfl (by first | assumption | decide | omega) (by decide) rfl (Nat.le_of_ble_eq_true rfl) rfl ?_
      rintro v h3 ⟨rfl, hs3, sm3⟩
      have g3 : h3 0 = _ := (sm3 0 (by omega)).trans gA
      have hP3 := hPA.same sm3 (by omega)
      have q3 := hP3.1
      have s03 : zSame 0 16 h h3 := ((sw.wide (lo' := 0) (hi' := 16) (by omega) (by omega)).trans (sA.wide (by omega) (by omega))).trans (sm3.wide (by omega) (by omega))
      obtain ⟨S0, B0, hR0, hB0, hS0⟩ := hR
      have hR3 := hR0.same s03 (by omega)
      have k17 := hR3.1
      refine zb_go (zg_aload_n rfl) rfl ?_
      refine zb_go (zg_getfield fX5_29 (by first | assumption | decide | omega) (by repeat (first | assumption | exact z_up_self _ _ _ | refine (z_up_ne (by first | decide | omega)).trans ?_)) (by rfl)) rfl ?_
      refine zb_go (zg_aload_n rfl) rfl ?_
      refine zb_go (zg_getfield fX5_19 (by first | assumption | decide | omega) (by repeat (first | assumption | exact z_up_self _ _ _ | refine (z_up_ne (by first | decide | omega)).trans ?_)) (by rfl)) rfl ?_
      refine zb_go (zg_getfield fX5_67 (by first | assumption | decide | omega) (by repeat (first | assumption | exact z_up_self _ _ _ | refine (z_up_ne (by first | decide | omega)).trans ?_)) (by rfl)) rfl ?_
      refine zb_callvx (r_X3_empty hR3 (by decide)) lX5_70 (by repeat (first | assumption | exact z_up_self _ _ _ | refine (z_up_ne (by first | decide | omega)).trans ?_)) rfl rfl (by first | assumption | decide | omega) (by decide) rfl (Nat.le_of_ble_eq_true rfl) rfl ?_
      rintro v h4 ⟨rfl, ⟨S4, B4, hR4, hS4, hB4⟩, sm4⟩
      have g4 : h4 0 = _ := (sm4 0 (by omega)).trans g3
      have cR4 : cRota h4 17 (tNew P) := ⟨S4, B4, hR4, fun r g hr hg => hB4 _ (by omega), fun g hg => hS4 g hg⟩
      have hs4 := (show cScript h3 (gNew G P) from ⟨_, _, _, _, _, hs3, fun i hi => absurd hi (Nat.not_lt_zero _)⟩).same sm4 (by omega)
      have hP4 := hP3.same sm4 (by omega)
      have hp4 := (hpA.same sm3 (by omega)).same sm4 (by omega)
      have f4 := (sm4 20 (by omega)).trans ((s03 20 (by omega)).trans hfi)
      have hk4 := (sm4 21 (by omega)).trans ((s03 21 (by omega)).trans hkf)
      have hN4 := (hN.same s03 (by omega)).same sm4 (by omega)
      have i04 := (hi0.same s03 (by omega)).same sm4 (by omega)
      have i14 := (hi1.same s03 (by omega)).same sm4 (by omega)
      have s04 : zSame 0 33 h h4 := (s03.wide (by omega) (by omega)).trans (sm4.wide (by omega) (by omega))
      have lp : ∀ k, k ≤ 2 → ∀ h5 kf', h5 21 = .inl (3, 2, .inl kf') → (∀ i, i < k → kf' i = 0) → zSame 21 21 h4 h5 → zGo K l 8 mX5_parish 59 [(0, .ref 0), (1, .int (nI m)), (2, .ref p), (3, .int (nI k))] [] 59 h5 0 0 Q := by
        refine z_down 2 (fun k hk ih h5 kf' h21 hz s5 => ?_)
        have g5 : h5 0 = _ := (s5 0 (by omega)).trans g4
        refine kX5_parish_59 ?_
        refine zb_go (zg_iload_n rfl) rfl ?_
        refine zb_go (zg_iconst 2 (by decide)) rfl ?_
        refine zb_br (zg_icmp_ge (tgt := 77) (by decide)) rfl (fun c1 => ?_) (fun c1 => ?_)
        · have e2 : k = 2 := by
            have := (nI_leI (a := 2) (b := k) (by decide) (by omega)).mp c1
            omega
          subst e2
          have hN5 := hN4.same s5 (by omega)
          have k22 := hN5.cell
          refine kX5_parish_77 ?_
          refine zb_go (zg_aload_n rfl) rfl ?_
          refine zb_go (zg_getfield fX5_44 (by first | assumption | decide | omega) (by repeat (first | assumption | exact z_up_self _ _ _ | refine (z_up_ne (by first | decide | omega)).trans ?_)) (by rfl)) rfl ?_
          refine zb_callvx (r_X1_forParish hN5) lX5_73 (by repeat (first | assumption | exact z_up_self _ _ _ | refine (z_up_ne (by first | decide | omega)).trans ?_)) rfl rfl (by first | assumption | decide | omega) (by decide) rfl (Nat.le_of_ble_eq_true rfl) rfl ?_
          rintro v h6 ⟨rfl, hN6, s6⟩
          have g6 : h6 0 = _ := (s6 0 (by omega)).trans g5
          refine zb_go (zg_iload_n rfl) rfl ?_
          refine zb_end (zg_ireturn rfl (by rfl) ?_) rfl
          exact hQ _ _ ⟨rfl, ⟨q, p, gP G, nUp N, kf', by omega, g6, (hs4.same s5 (by omega)).same s6 (by omega), (hP4.same s5 (by omega)).same s6 (by omega), (hp4.same s5 (by omega)).same s6 (by omega), (cR4.same s5 (by omega)).same s6 (by omega), ⟨fi, (s6 20 (by omega)).trans ((s5 20 (by omega)).trans f4), hfi2⟩, (s6 21 (by omega)).trans h21, fun i hi => hz i hi, hN6, nOK_up _ _ _, ((i04.same s5 (by omega)).same s6 (by omega)).none, ((i14.same s5 (by omega)).same s6 (by omega)).none⟩, okS_new okp, s04.trans ((s5.wide (by omega) (by omega)).trans (s6.wide (by omega) (by omega)))⟩
        · have hk2 : k < 2 := Nat.not_le.mp (fun q => c1 (nI_le q (by omega)))
          refine zb_go (zg_aload_n rfl) rfl ?_
          refine zb_go (zg_getfield fX5_37 (by first | assumption | decide | omega) (by repeat (first | assumption | exact z_up_self _ _ _ | refine (z_up_ne (by first | decide | omega)).trans ?_)) (by rfl)) rfl ?_
          refine zb_go (zg_iload_n rfl) rfl ?_
          refine zb_go (zg_iconst 0 (by decide)) rfl ?_
          refine zb_go (zi_zastore (y := 0) (by first | assumption | decide | omega) (by repeat (first | assumption | exact z_up_self _ _ _ | refine (z_up_ne (by first | decide | omega)).trans ?_)) (zIx.nI hk2 (by decide)) (by decide)) rfl ?_
          refine zb_go (zg_iinc 1 (by decide) rfl (by decide)) rfl ?_
          refine zb_end (zg_goto (tgt := 59) (by decide) ?_) rfl
          rw [nI_1]
          refine ih hk2 _ (upd kf' k 0) (z_up_self _ _ _) (fun i hi => ?_) (s5.up (by omega) (by omega))
          by_cases w : i = k
          · rw [w, pk_us]
          · rw [pk_un w]; exact hz i (by omega)
      refine zb_go (zg_iconst 0 (by decide)) rfl ?_
      refine zb_go (zg_istore_n (by decide)) rfl ?_
      refine zb_out ?_
      exact lp 0 (by omega) h4 kf hk4 (fun i hi => absurd hi (Nat.not_lt_zero _)) zSame.rf
    · exact absurd ((nI_leI (a := 0) (by decide) (by omega)).mpr (Nat.zero_le _)) c0
end
