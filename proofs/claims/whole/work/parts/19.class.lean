/-! THE CLASS (7): mark, keep, back, clear, type -/
noncomputable def sMark (G : zS) (x y : Int32) : Int32 × zS :=
  zite (iR G y) (
    if x = 0 then (nI (tN (gT G) y.toNatClampNeg), wTr G (gTr G + 1))
    else if x = 1 then (nI (tN (gT G) y.toNatClampNeg) + nI (zpop (pBe (gP G) y.toNatClampNeg)), wTr G (gTr G + 11))
    else if x = 2 then (nI (tN (gT G) y.toNatClampNeg) - nI (zpop (pBu (gP G) y.toNatClampNeg &&& (2 ^ pH (gP G) - 1))), wTr G (gTr G + 101))
    else if x = 3 then ((nI (tN (gT G) y.toNatClampNeg) + nI (zpop (pBe (gP G) y.toNatClampNeg))) * 2, wTr G (gTr G + 1011))
    else if x = 4 then (nI (tN (gT G) y.toNatClampNeg) - nI (zpop (pBu (gP G) y.toNatClampNeg &&& (2 ^ pH (gP G) - 1))) + y, wTr G (gTr G + 10101))
    else if x = 5 then (nI (tN (gT G) y.toNatClampNeg) + nI (zdist (pHo (gP G) y.toNatClampNeg) (gT G).2.1), wTr G (gTr G + 100001))
    else (-1000000, G)) (-1000000, G)
def bupd (f : Nat → Bool) (k : Nat) : Nat → Bool := fun i => if i = k then true else f i
def tupd (f : Nat → zT) (k : Nat) (T : zT) : Nat → zT := fun i => if i = k then T else f i
def wKeep (G : zS) (i : Nat) : zS := (G.1, G.2.1, G.2.2.1, G.2.2.2.1, bupd G.2.2.2.2.1 i, tupd G.2.2.2.2.2.1 i G.2.2.2.1, G.2.2.2.2.2.2)
noncomputable def sKeep (G : zS) (x : Int32) : Int32 × zS := zite (0 ≤ x ∧ x < 2) (nI (tAll (gT G)), wKeep G x.toNatClampNeg) (-1, G)
noncomputable def sBack (G : zS) (x : Int32) : Int32 × zS := zite (0 ≤ x ∧ x < 2) (if gK G x.toNatClampNeg then (nI (tAll (gI G x.toNatClampNeg)), wT G (gI G x.toNatClampNeg)) else (-2, G)) (-1, G)
theorem okS.keep {G : zS} {i : Nat} (ok : okS G) : okS (wKeep G i) := by
  refine ⟨ok.1, ok.2.1, fun j hj hk => ?_, ok.2.2.2⟩
  have hk : bupd (gK G) i j = true := hk
  show okT (gP G) (tupd (gI G) i (gT G) j)
  by_cases q : j = i
  · simp only [tupd, if_pos q]; exact ok.2.1
  · simp only [tupd, if_neg q]
    simp only [bupd, if_neg q] at hk
    exact ok.2.2.1 j hj hk
theorem cRel.trace {h : zH} {G : zS} {p q : Nat} {tr : Int64} (hC : cRel h G) (hat : cAt h p q tr) (t : Int64) : cRel (z_up h 0 (.inr (4, [.ref 1, .ref p, .ref q, .ref 17, .ref 20, .ref 21, .ref 22, .long t]))) (wTr G t) := by
  obtain ⟨p', q', P', N, kf, hpq, hat', hsc, hp, hq, hR0, ⟨fi, hfi, hfi2⟩, hkf, hk2, hN, hNo, hi0, hi1⟩ := hC
  have e := hat.symm.trans hat'
  simp only [Sum.inr.injEq, Prod.mk.injEq, List.cons.injEq, Value.ref.injEq, true_and, and_true] at e
  obtain ⟨rfl, rfl, -⟩ := e
  have s : zSame 0 0 h (z_up h 0 (.inr (4, [.ref 1, .ref p, .ref q, .ref 17, .ref 20, .ref 21, .ref 22, .long t]))) := zSame.rf.up (Nat.le_refl _) (Nat.le_refl _)
  exact ⟨p, q, P', N, kf, hpq, z_up_self _ _ _, hsc.same s (by omega), hp.same s (by omega), hq.same s (by omega), hR0.same s (by omega), ⟨fi, (s 20 (by omega)).trans hfi, hfi2⟩, (s 21 (by omega)).trans hkf, hk2, hN.same s (by omega), hNo, hi0.same s (by omega), hi1.same s (by omega)⟩
theorem okS.tr {G : zS} {t : Int64} (ok : okS G) : okS (wTr G t) := ok
section
variable {K : zK} {l : Launch} {n p q r g : Nat} {h : zH} {x y z : Int32} {G : zS}
theorem r_X5_markRinger (hC : cRel h G) (ok : okS G) (hr : r < pR (gP G)) : zRex K l 4 mX5_markRinger [.ref 0, .int (nI r)] 59 h (fun v h' => v = some (.int (nI (tN (gT G) r))) ∧ cRel h' (wTr G (gTr G + 1)) ∧ zSame 0 33 h h') := by
  refine zRex.of (by decide) (Nat.le_of_ble_eq_true rfl) (fun Q hQ => ?_)
  obtain ⟨p, q, P', N, kf, hpq, hat, hsc, hp, hq, ⟨S, B, hR, hB, hS⟩, hfi, hkf, hk2, hN, hNo, hi0, hi1⟩ := id hC
  have okp := ok.1
  have okt := ok.2.1
  have hpn : p + 5 < 59 := by omega
  have hat' : h 0 = _ := hat
  have h17 := hR.1
  have kH := okp.1
  have kR := okp.2.1
  have hp1 := hp.1
  have hC1 := hC.trace hat (gTr G + 1)
  have s1 : zSame 0 33 h (z_up h 0 (.inr (4, [.ref 1, .ref p, .ref q, .ref 17, .ref 20, .ref 21, .ref 22, .long (gTr G + 1)]))) := zSame.rf.up (by omega) (by omega)
  have hR1 : isRota (z_up h 0 (.inr (4, [.ref 1, .ref p, .ref q, .ref 17, .ref 20, .ref 21, .ref 22, .long (gTr G + 1)]))) 17 (nI (tAll (gT G))) (nI (gT G).2.1) S B := hR.same (lo := 0) (hi := 0) (zSame.rf.up (by omega) (by omega)) (by omega)
  refine kX5_markRinger_0 ?_
  refine zb_go (zg_aload_n rfl) rfl ?_
  refine zb_go (zg_dup rfl) rfl ?_
  refine zb_go (zg_getfield fX5_48 (by first | assumption | decide | omega) (by repeat (first | assumption | exact z_up_self _ _ _ | refine (z_up_ne (by first | decide | omega)).trans ?_)) (by rfl)) rfl ?_
  refine zb_go (zg_lconst 1 (by decide)) rfl ?_
  refine zb_go zg_ladd rfl ?_
  refine zb_go (zg_putfield fX5_48 (by first | assumption | decide | omega) (by repeat (first | assumption | exact z_up_self _ _ _ | refine (z_up_ne (by first | decide | omega)).trans ?_)) (by exact Nat.le_of_ble_eq_true rfl) (by rfl) (by rfl) (by first | exact Or.inl rfl | exact Or.inr ⟨rfl, rfl⟩)) rfl ?_
  refine zb_go (zg_aload_n rfl) rfl ?_
  refine zb_go (zg_getfield fX5_29 (by first | assumption | decide | omega) (by repeat (first | assumption | exact z_up_self _ _ _ | refine (z_up_ne (by first | decide | omega)).trans ?_)) (by rfl)) rfl ?_
  refine zb_go (zg_iload_n rfl) rfl ?_
  refine zb_callv (r_X3_timesOf hR1 (by decide) (by omega)) lX5_93 (by repeat (first | assumption | exact z_up_self _ _ _ | refine (z_up_ne (by first | decide | omega)).trans ?_)) rfl rfl (by first | assumption | decide | omega) (by decide) rfl (Nat.le_of_ble_eq_true rfl) rfl ?_
  refine zb_end (zg_ireturn rfl (by rfl) ?_) rfl
  rw [rT_eq okp okt hB (by omega)]
  exact hQ _ _ ⟨rfl, hC1, s1⟩
theorem r_X5_markSexton (hC : cRel h G) (ok : okS G) (hr : r < pR (gP G)) : zRex K l 5 mX5_markSexton [.ref 0, .int (nI r)] 59 h (fun v h' => v = some (.int (nI (tN (gT G) r) + nI (zpop (pBe (gP G) r)))) ∧ cRel h' (wTr G (gTr G + 10 + 1)) ∧ zSame 0 33 h h') := by
  refine zRex.of (by decide) (Nat.le_of_ble_eq_true rfl) (fun Q hQ => ?_)
  have hat0 := hC
  obtain ⟨p, q, P', N, kf, hpq, hat, -⟩ := hat0
  have hat' : h 0 = _ := hat
  obtain ⟨t, ht⟩ : ∃ t : Int64, gTr G + 10 = t := ⟨_, rfl⟩
  have hC1 := hC.trace hat t
  have s1 : zSame 0 33 h (z_up h 0 (.inr (4, [.ref 1, .ref p, .ref q, .ref 17, .ref 20, .ref 21, .ref 22, .long t]))) := zSame.rf.up (by omega) (by omega)
  refine kX5_markSexton_0 ?_
  refine zb_go (zg_aload_n rfl) rfl ?_
  refine zb_go (zg_dup rfl) rfl ?_
  refine zb_go (zg_getfield fX5_48 (by first | assumption | decide | omega) (by repeat (first | assumption | exact z_up_self _ _ _ | refine (z_up_ne (by first | decide | omega)).trans ?_)) (by rfl)) rfl ?_
  refine zb_go (zg_ldc2_w cX5_230) rfl ?_
  refine zb_go zg_ladd rfl ?_
  refine zb_go (zg_putfield fX5_48 (by first | assumption | decide | omega) (by repeat (first | assumption | exact z_up_self _ _ _ | refine (z_up_ne (by first | decide | omega)).trans ?_)) (by exact Nat.le_of_ble_eq_true rfl) (by rfl) (by rfl) (by first | exact Or.inl rfl | exact Or.inr ⟨rfl, rfl⟩)) rfl ?_
  refine zb_go (zg_aload_n rfl) rfl ?_
  refine zb_go (zg_iload_n rfl) rfl ?_
  rw [ht]
  refine zb_callvx (r_X5_markRinger hC1 ok.tr hr) lX5_212 (by repeat (first | assumption | exact z_up_self _ _ _ | refine (z_up_ne (by first | decide | omega)).trans ?_)) rfl rfl (by first | assumption | decide | omega) (by decide) rfl (Nat.le_of_ble_eq_true rfl) rfl ?_
  rintro v h1 ⟨rfl, hC2, hs⟩
  obtain ⟨p', q', P2, N2, kf2, hpq2, hat2, hsc2, hp2, -⟩ := id hC2
  have gat : h1 0 = _ := hat2
  have kR := ok.1.2.1
  obtain ⟨b1, -, -, ⟨f4, b4, e4⟩, -⟩ := id hp2
  have hb7 := (ok.1.2.2.2.2.2.2 r hr).2.1
  refine zb_go (zg_aload_n rfl) rfl ?_
  refine zb_go (zg_getfield fX5_19 (by first | assumption | decide | omega) (by repeat (first | assumption | exact z_up_self _ _ _ | refine (z_up_ne (by first | decide | omega)).trans ?_)) (by rfl)) rfl ?_
  refine zb_go (zg_getfield fX5_84 (by first | assumption | decide | omega) (by repeat (first | assumption | exact z_up_self _ _ _ | refine (z_up_ne (by first | decide | omega)).trans ?_)) (by rfl)) rfl ?_
  refine zb_go (zg_iload_n rfl) rfl ?_
  refine zb_go (zi_iaload (by first | assumption | decide | omega) (by repeat (first | assumption | exact z_up_self _ _ _ | refine (z_up_ne (by first | decide | omega)).trans ?_)) (by first | assumption | exact zIx.nI (by omega) (by decide) | exact ⟨by decide, by decide⟩)) rfl ?_
  rw [e4 r hr]
  refine zb_calls (r_bitCount (show pBe (gP G) r < 64 by omega)) lX5_106 rfl (by decide) rfl (Nat.le_of_ble_eq_true rfl) rfl ?_
  refine zb_go zg_iadd rfl ?_
  refine zb_end (zg_ireturn rfl (by rfl) ?_) rfl
  rw [ht] at hQ
  exact hQ _ _ ⟨rfl, hC2, s1.trans hs⟩
theorem r_X5_markChild (hC : cRel h G) (ok : okS G) (hr : r < pR (gP G)) : zRex K l 5 mX5_markChild [.ref 0, .int (nI r)] 59 h (fun v h' => v = some (.int (nI (tN (gT G) r) - nI (zpop (pBu (gP G) r &&& (2 ^ pH (gP G) - 1))))) ∧ cRel h' (wTr G (gTr G + 100 + 1)) ∧ zSame 0 33 h h') := by
  refine zRex.of (by decide) (Nat.le_of_ble_eq_true rfl) (fun Q hQ => ?_)
  have hat0 := hC
  obtain ⟨p, q, P', N, kf, hpq, hat, -⟩ := hat0
  have hat' : h 0 = _ := hat
  obtain ⟨t, ht⟩ : ∃ t : Int64, gTr G + 100 = t := ⟨_, rfl⟩
  have hC1 := hC.trace hat t
  have s1 : zSame 0 33 h (z_up h 0 (.inr (4, [.ref 1, .ref p, .ref q, .ref 17, .ref 20, .ref 21, .ref 22, .long t]))) := zSame.rf.up (by omega) (by omega)
  refine kX5_markChild_0 ?_
  refine zb_go (zg_aload_n rfl) rfl ?_
  refine zb_go (zg_dup rfl) rfl ?_
  refine zb_go (zg_getfield fX5_48 (by first | assumption | decide | omega) (by repeat (first | assumption | exact z_up_self _ _ _ | refine (z_up_ne (by first | decide | omega)).trans ?_)) (by rfl)) rfl ?_
  refine zb_go (zg_ldc2_w cX5_232) rfl ?_
  refine zb_go zg_ladd rfl ?_
  refine zb_go (zg_putfield fX5_48 (by first | assumption | decide | omega) (by repeat (first | assumption | exact z_up_self _ _ _ | refine (z_up_ne (by first | decide | omega)).trans ?_)) (by exact Nat.le_of_ble_eq_true rfl) (by rfl) (by rfl) (by first | exact Or.inl rfl | exact Or.inr ⟨rfl, rfl⟩)) rfl ?_
  refine zb_go (zg_aload_n rfl) rfl ?_
  refine zb_go (zg_iload_n rfl) rfl ?_
  rw [ht]
  refine zb_callvx (r_X5_markRinger hC1 ok.tr hr) lX5_212 (by repeat (first | assumption | exact z_up_self _ _ _ | refine (z_up_ne (by first | decide | omega)).trans ?_)) rfl rfl (by first | assumption | decide | omega) (by decide) rfl (Nat.le_of_ble_eq_true rfl) rfl ?_
  rintro v h1 ⟨rfl, hC2, hs⟩
  obtain ⟨p', q', P2, N2, kf2, hpq2, hat2, hsc2, hp2, -⟩ := id hC2
  have gat : h1 0 = _ := hat2
  have b1 := hp2.1
  have hpn : p' + 5 < 59 := by omega
  refine zb_go (zg_aload_n rfl) rfl ?_
  refine zb_go (zg_getfield fX5_19 (by first | assumption | decide | omega) (by repeat (first | assumption | exact z_up_self _ _ _ | refine (z_up_ne (by first | decide | omega)).trans ?_)) (by rfl)) rfl ?_
  refine zb_go (zg_iload_n rfl) rfl ?_
  refine zb_callv (r_X2_busyHours hp2 hpn ok.1 hr) lX5_234 (by repeat (first | assumption | exact z_up_self _ _ _ | refine (z_up_ne (by first | decide | omega)).trans ?_)) rfl rfl (by first | assumption | decide | omega) (by decide) rfl (Nat.le_of_ble_eq_true rfl) rfl ?_
  refine zb_go zg_isub rfl ?_
  refine zb_end (zg_ireturn rfl (by rfl) ?_) rfl
  rw [ht] at hQ
  exact hQ _ _ ⟨rfl, hC2, s1.trans hs⟩
theorem r_X5_markWarden (hC : cRel h G) (ok : okS G) (hr : r < pR (gP G)) : zRex K l 6 mX5_markWarden [.ref 0, .int (nI r)] 59 h (fun v h' => v = some (.int ((nI (tN (gT G) r) + nI (zpop (pBe (gP G) r))) * 2)) ∧ cRel h' (wTr G (gTr G + 1000 + 10 + 1)) ∧ zSame 0 33 h h') := by
  refine zRex.of (by decide) (Nat.le_of_ble_eq_true rfl) (fun Q hQ => ?_)
  have hat0 := hC
  obtain ⟨p, q, P', N, kf, hpq, hat, -⟩ := hat0
  have hat' : h 0 = _ := hat
  obtain ⟨t, ht⟩ : ∃ t : Int64, gTr G + 1000 = t := ⟨_, rfl⟩
  have hC1 := hC.trace hat t
  have s1 : zSame 0 33 h (z_up h 0 (.inr (4, [.ref 1, .ref p, .ref q, .ref 17, .ref 20, .ref 21, .ref 22, .long t]))) := zSame.rf.up (by omega) (by omega)
  refine kX5_markWarden_0 ?_
  refine zb_go (zg_aload_n rfl) rfl ?_
  refine zb_go (zg_dup rfl) rfl ?_
  refine zb_go (zg_getfield fX5_48 (by first | assumption | decide | omega) (by repeat (first | assumption | exact z_up_self _ _ _ | refine (z_up_ne (by first | decide | omega)).trans ?_)) (by rfl)) rfl ?_
  refine zb_go (zg_ldc2_w cX5_237) rfl ?_
  refine zb_go zg_ladd rfl ?_
  refine zb_go (zg_putfield fX5_48 (by first | assumption | decide | omega) (by repeat (first | assumption | exact z_up_self _ _ _ | refine (z_up_ne (by first | decide | omega)).trans ?_)) (by exact Nat.le_of_ble_eq_true rfl) (by rfl) (by rfl) (by first | exact Or.inl rfl | exact Or.inr ⟨rfl, rfl⟩)) rfl ?_
  refine zb_go (zg_aload_n rfl) rfl ?_
  refine zb_go (zg_iload_n rfl) rfl ?_
  rw [ht]
  refine zb_callvx (r_X5_markSexton hC1 ok.tr hr) lX5_215 (by repeat (first | assumption | exact z_up_self _ _ _ | refine (z_up_ne (by first | decide | omega)).trans ?_)) rfl rfl (by first | assumption | decide | omega) (by decide) rfl (Nat.le_of_ble_eq_true rfl) rfl ?_
  rintro v h1 ⟨rfl, hC2, hs⟩
  refine zb_go (zg_iconst 2 (by decide)) rfl ?_
  refine zb_go zg_imul rfl ?_
  refine zb_end (zg_ireturn rfl (by rfl) ?_) rfl
  rw [ht] at hQ
  exact hQ _ _ ⟨rfl, hC2, s1.trans hs⟩
theorem r_X5_markNovice (hC : cRel h G) (ok : okS G) (hr : r < pR (gP G)) : zRex K l 6 mX5_markNovice [.ref 0, .int (nI r)] 59 h (fun v h' => v = some (.int (nI (tN (gT G) r) - nI (zpop (pBu (gP G) r &&& (2 ^ pH (gP G) - 1))) + nI r)) ∧ cRel h' (wTr G (gTr G + 10000 + 100 + 1)) ∧ zSame 0 33 h h') := by
  refine zRex.of (by decide) (Nat.le_of_ble_eq_true rfl) (fun Q hQ => ?_)
  have hat0 := hC
  obtain ⟨p, q, P', N, kf, hpq, hat, -⟩ := hat0
  have hat' : h 0 = _ := hat
  obtain ⟨t, ht⟩ : ∃ t : Int64, gTr G + 10000 = t := ⟨_, rfl⟩
  have hC1 := hC.trace hat t
  have s1 : zSame 0 33 h (z_up h 0 (.inr (4, [.ref 1, .ref p, .ref q, .ref 17, .ref 20, .ref 21, .ref 22, .long t]))) := zSame.rf.up (by omega) (by omega)
  refine kX5_markNovice_0 ?_
  refine zb_go (zg_aload_n rfl) rfl ?_
  refine zb_go (zg_dup rfl) rfl ?_
  refine zb_go (zg_getfield fX5_48 (by first | assumption | decide | omega) (by repeat (first | assumption | exact z_up_self _ _ _ | refine (z_up_ne (by first | decide | omega)).trans ?_)) (by rfl)) rfl ?_
  refine zb_go (zg_ldc2_w cX5_239) rfl ?_
  refine zb_go zg_ladd rfl ?_
  refine zb_go (zg_putfield fX5_48 (by first | assumption | decide | omega) (by repeat (first | assumption | exact z_up_self _ _ _ | refine (z_up_ne (by first | decide | omega)).trans ?_)) (by exact Nat.le_of_ble_eq_true rfl) (by rfl) (by rfl) (by first | exact Or.inl rfl | exact Or.inr ⟨rfl, rfl⟩)) rfl ?_
  refine zb_go (zg_aload_n rfl) rfl ?_
  refine zb_go (zg_iload_n rfl) rfl ?_
  rw [ht]
  refine zb_callvx (r_X5_markChild hC1 ok.tr hr) lX5_218 (by repeat (first | assumption | exact z_up_self _ _ _ | refine (z_up_ne (by first | decide | omega)).trans ?_)) rfl rfl (by first | assumption | decide | omega) (by decide) rfl (Nat.le_of_ble_eq_true rfl) rfl ?_
  rintro v h1 ⟨rfl, hC2, hs⟩
  refine zb_go (zg_iload_n rfl) rfl ?_
  refine zb_go zg_iadd rfl ?_
  refine zb_end (zg_ireturn rfl (by rfl) ?_) rfl
  rw [ht] at hQ
  exact hQ _ _ ⟨rfl, hC2, s1.trans hs⟩
theorem r_X5_markStranger (hC : cRel h G) (ok : okS G) (hr : r < pR (gP G)) : zRex K l 5 mX5_markStranger [.ref 0, .int (nI r)] 59 h (fun v h' => v = some (.int (nI (tN (gT G) r) + nI (zdist (pHo (gP G) r) (gT G).2.1))) ∧ cRel h' (wTr G (gTr G + 100000 + 1)) ∧ zSame 0 33 h h') := by
  refine zRex.of (by decide) (Nat.le_of_ble_eq_true rfl) (fun Q hQ => ?_)
  have hat0 := hC
  obtain ⟨p, q, P', N, kf, hpq, hat, -⟩ := hat0
  have hat' : h 0 = _ := hat
  obtain ⟨t, ht⟩ : ∃ t : Int64, gTr G + 100000 = t := ⟨_, rfl⟩
  have hC1 := hC.trace hat t
  have s1 : zSame 0 33 h (z_up h 0 (.inr (4, [.ref 1, .ref p, .ref q, .ref 17, .ref 20, .ref 21, .ref 22, .long t]))) := zSame.rf.up (by omega) (by omega)
  refine kX5_markStranger_0 ?_
  refine zb_go (zg_aload_n rfl) rfl ?_
  refine zb_go (zg_dup rfl) rfl ?_
  refine zb_go (zg_getfield fX5_48 (by first | assumption | decide | omega) (by repeat (first | assumption | exact z_up_self _ _ _ | refine (z_up_ne (by first | decide | omega)).trans ?_)) (by rfl)) rfl ?_
  refine zb_go (zg_ldc2_w cX5_241) rfl ?_
  refine zb_go zg_ladd rfl ?_
  refine zb_go (zg_putfield fX5_48 (by first | assumption | decide | omega) (by repeat (first | assumption | exact z_up_self _ _ _ | refine (z_up_ne (by first | decide | omega)).trans ?_)) (by exact Nat.le_of_ble_eq_true rfl) (by rfl) (by rfl) (by first | exact Or.inl rfl | exact Or.inr ⟨rfl, rfl⟩)) rfl ?_
  refine zb_go (zg_aload_n rfl) rfl ?_
  refine zb_go (zg_iload_n rfl) rfl ?_
  rw [ht]
  refine zb_callvx (r_X5_markRinger hC1 ok.tr hr) lX5_212 (by repeat (first | assumption | exact z_up_self _ _ _ | refine (z_up_ne (by first | decide | omega)).trans ?_)) rfl rfl (by first | assumption | decide | omega) (by decide) rfl (Nat.le_of_ble_eq_true rfl) rfl ?_
  rintro v h1 ⟨rfl, hC2, hs⟩
  obtain ⟨p', q', P2, N2, kf2, hpq2, hat2, hsc2, hp2, -, ⟨S2, B2, hR2, -⟩, -⟩ := id hC2
  have gat : h1 0 = _ := hat2
  have b1 := hp2.1
  have g17 := hR2.1
  have hpn : p' + 5 < 59 := by omega
  have kpl := ok.2.1.2.2.2.2.1
  refine zb_go (zg_aload_n rfl) rfl ?_
  refine zb_go (zg_getfield fX5_19 (by first | assumption | decide | omega) (by repeat (first | assumption | exact z_up_self _ _ _ | refine (z_up_ne (by first | decide | omega)).trans ?_)) (by rfl)) rfl ?_
  refine zb_go (zg_iload_n rfl) rfl ?_
  refine zb_go (zg_aload_n rfl) rfl ?_
  refine zb_go (zg_getfield fX5_29 (by first | assumption | decide | omega) (by repeat (first | assumption | exact z_up_self _ _ _ | refine (z_up_ne (by first | decide | omega)).trans ?_)) (by rfl)) rfl ?_
  refine zb_go (zg_getfield fX5_157 (by first | assumption | decide | omega) (by repeat (first | assumption | exact z_up_self _ _ _ | refine (z_up_ne (by first | decide | omega)).trans ?_)) (by rfl)) rfl ?_
  refine zb_callv (r_X2_way (w := (gT G).2.1) hp2 hpn ok.1 hr (by omega)) lX5_243 (by repeat (first | assumption | exact z_up_self _ _ _ | refine (z_up_ne (by first | decide | omega)).trans ?_)) rfl rfl (by first | assumption | decide | omega) (by decide) rfl (Nat.le_of_ble_eq_true rfl) rfl ?_
  refine zb_go zg_iadd rfl ?_
  refine zb_end (zg_ireturn rfl (by rfl) ?_) rfl
  rw [ht] at hQ
  exact hQ _ _ ⟨rfl, hC2, s1.trans hs⟩
theorem r_X5_mark (hC : cRel h G) (ok : okS G) : zRex K l 7 mX5_mark [.ref 0, .int x, .int y] 59 h (fun v h' => v = some (.int (sMark G x y).1) ∧ cRel h' (sMark G x y).2 ∧ okS (sMark G x y).2 ∧ zSame 0 33 h h') := by
  refine zRex.of (by decide) (Nat.le_of_ble_eq_true rfl) (fun Q hQ => ?_)
  obtain ⟨p, q, P', N, kf, hpq, hat, hsc, hp, hq, ⟨S, B, hR, hB, hS⟩, hfi, hkf, hk2, hN, hNo, hi0, hi1⟩ := id hC
  have okp := ok.1
  have okt := ok.2.1
  have hpn : p + 5 < 59 := by omega
  have hat' : h 0 = _ := hat
  have h17 := hR.1
  have kH := okp.1
  have kR := okp.2.1
  have hp1 := hp.1
  unfold sMark at hQ
  have a1 : gTr G + 10 + 1 = gTr G + 11 := by rw [Int64.add_assoc]; exact congrArg (fun t => gTr G + t) (by decide +kernel)
  have a2 : gTr G + 100 + 1 = gTr G + 101 := by rw [Int64.add_assoc]; exact congrArg (fun t => gTr G + t) (by decide +kernel)
  have a3 : gTr G + 1000 + 10 + 1 = gTr G + 1011 := by rw [Int64.add_assoc, Int64.add_assoc]; exact congrArg (fun t => gTr G + t) (by decide +kernel)
  have a4 : gTr G + 10000 + 100 + 1 = gTr G + 10101 := by rw [Int64.add_assoc, Int64.add_assoc]; exact congrArg (fun t => gTr G + t) (by decide +kernel)
  have a5 : gTr G + 100000 + 1 = gTr G + 100001 := by rw [Int64.add_assoc]; exact congrArg (fun t => gTr G + t) (by decide +kernel)
  refine kX5_mark_0 ?_
  refine zb_go (zg_aload_n rfl) rfl ?_
  refine zb_go (zg_getfield fX5_19 (by first | assumption | decide | omega) (by repeat (first | assumption | exact z_up_self _ _ _ | refine (z_up_ne (by first | decide | omega)).trans ?_)) (by rfl)) rfl ?_
  refine zb_go (zg_iload_n rfl) rfl ?_
  refine zb_callv (r_X2_hasRinger hp hpn) lX5_76 (by repeat (first | assumption | exact z_up_self _ _ _ | refine (z_up_ne (by first | decide | omega)).trans ?_)) rfl rfl (by first | assumption | decide | omega) (by decide) rfl (Nat.le_of_ble_eq_true rfl) rfl ?_
  refine zb_br (zg_if_ne (tgt := 14) (by decide)) rfl (fun c0 => ?_) (fun c0 => ?_)
  · have c0' := zb_n.mp c0
    have c0 : iR G y := c0'
    rw [zite_t c0] at hQ
    obtain ⟨r, hr, rfl⟩ := z_isIx (by omega) c0
    rw [nI_clamp (by omega)] at hQ
    refine kX5_mark_14 ?_
    refine zb_go (zg_iload_n rfl) rfl ?_
    rcases z_swi x 5 (by decide) with ⟨k, hk, rfl⟩ | ho
    · rcases (show k = 0 ∨ k = 1 ∨ k = 2 ∨ k = 3 ∨ k = 4 ∨ k = 5 by omega) with rfl | rfl | rfl | rfl | rfl | rfl
      · rw [if_pos (by decide)] at hQ
        refine zb_end (len := 37) (zg_tableIn 37 52 (by decide) (by decide) (by rfl) (by decide) ?_) rfl
        refine kX5_mark_52 ?_
        refine zb_go (zg_aload_n rfl) rfl ?_
        refine zb_go (zg_iload_n rfl) rfl ?_
        refine zb_callvx (r_X5_markRinger hC ok hr) lX5_212 (by repeat (first | assumption | exact z_up_self _ _ _ | refine (z_up_ne (by first | decide | omega)).trans ?_)) rfl rfl (by first | assumption | decide | omega) (by decide) rfl (Nat.le_of_ble_eq_true rfl) rfl ?_
        rintro v h1 ⟨rfl, hC2, hs⟩
        refine zb_end (zg_ireturn rfl (by rfl) ?_) rfl
        exact hQ _ _ ⟨rfl, hC2, ok.tr, hs⟩
      · rw [if_neg (by decide), if_pos (by decide)] at hQ
        refine zb_end (len := 37) (zg_tableIn 43 58 (by decide) (by decide) (by rfl) (by decide) ?_) rfl
        refine kX5_mark_58 ?_
        refine zb_go (zg_aload_n rfl) rfl ?_
        refine zb_go (zg_iload_n rfl) rfl ?_
        refine zb_callvx (r_X5_markSexton hC ok hr) lX5_215 (by repeat (first | assumption | exact z_up_self _ _ _ | refine (z_up_ne (by first | decide | omega)).trans ?_)) rfl rfl (by first | assumption | decide | omega) (by decide) rfl (Nat.le_of_ble_eq_true rfl) rfl ?_
        rintro v h1 ⟨rfl, hC2, hs⟩
        rw [a1] at hC2
        refine zb_end (zg_ireturn rfl (by rfl) ?_) rfl
        exact hQ _ _ ⟨rfl, hC2, ok.tr, hs⟩
      · rw [if_neg (by decide), if_neg (by decide), if_pos (by decide)] at hQ
        refine zb_end (len := 37) (zg_tableIn 49 64 (by decide) (by decide) (by rfl) (by decide) ?_) rfl
        refine kX5_mark_64 ?_
        refine zb_go (zg_aload_n rfl) rfl ?_
        refine zb_go (zg_iload_n rfl) rfl ?_
        refine zb_callvx (r_X5_markChild hC ok hr) lX5_218 (by repeat (first | assumption | exact z_up_self _ _ _ | refine (z_up_ne (by first | decide | omega)).trans ?_)) rfl rfl (by first | assumption | decide | omega) (by decide) rfl (Nat.le_of_ble_eq_true rfl) rfl ?_
        rintro v h1 ⟨rfl, hC2, hs⟩
        rw [a2] at hC2
        refine zb_end (zg_ireturn rfl (by rfl) ?_) rfl
        exact hQ _ _ ⟨rfl, hC2, ok.tr, hs⟩
      · rw [if_neg (by decide), if_neg (by decide), if_neg (by decide), if_pos (by decide)] at hQ
        refine zb_end (len := 37) (zg_tableIn 55 70 (by decide) (by decide) (by rfl) (by decide) ?_) rfl
        refine kX5_mark_70 ?_
        refine zb_go (zg_aload_n rfl) rfl ?_
        refine zb_go (zg_iload_n rfl) rfl ?_
        refine zb_callvx (r_X5_markWarden hC ok hr) lX5_221 (by repeat (first | assumption | exact z_up_self _ _ _ | refine (z_up_ne (by first | decide | omega)).trans ?_)) rfl rfl (by first | assumption | decide | omega) (by decide) rfl (Nat.le_of_ble_eq_true rfl) rfl ?_
        rintro v h1 ⟨rfl, hC2, hs⟩
        rw [a3] at hC2
        refine zb_end (zg_ireturn rfl (by rfl) ?_) rfl
        exact hQ _ _ ⟨rfl, hC2, ok.tr, hs⟩
      · rw [if_neg (by decide), if_neg (by decide), if_neg (by decide), if_neg (by decide), if_pos (by decide)] at hQ
        refine zb_end (len := 37) (zg_tableIn 61 76 (by decide) (by decide) (by rfl) (by decide) ?_) rfl
        refine kX5_mark_76 ?_
        refine zb_go (zg_aload_n rfl) rfl ?_
        refine zb_go (zg_iload_n rfl) rfl ?_
        refine zb_callvx (r_X5_markNovice hC ok hr) lX5_224 (by repeat (first | assumption | exact z_up_self _ _ _ | refine (z_up_ne (by first | decide | omega)).trans ?_)) rfl rfl (by first | assumption | decide | omega) (by decide) rfl (Nat.le_of_ble_eq_true rfl) rfl ?_
        rintro v h1 ⟨rfl, hC2, hs⟩
        rw [a4] at hC2
        refine zb_end (zg_ireturn rfl (by rfl) ?_) rfl
        exact hQ _ _ ⟨rfl, hC2, ok.tr, hs⟩
      · rw [if_neg (by decide), if_neg (by decide), if_neg (by decide), if_neg (by decide), if_neg (by decide), if_pos (by decide)] at hQ
        refine zb_end (len := 37) (zg_tableIn 67 82 (by decide) (by decide) (by rfl) (by decide) ?_) rfl
        refine kX5_mark_82 ?_
        refine zb_go (zg_aload_n rfl) rfl ?_
        refine zb_go (zg_iload_n rfl) rfl ?_
        refine zb_callvx (r_X5_markStranger hC ok hr) lX5_227 (by repeat (first | assumption | exact z_up_self _ _ _ | refine (z_up_ne (by first | decide | omega)).trans ?_)) rfl rfl (by first | assumption | decide | omega) (by decide) rfl (Nat.le_of_ble_eq_true rfl) rfl ?_
        rintro v h1 ⟨rfl, hC2, hs⟩
        rw [a5] at hC2
        refine zb_end (zg_ireturn rfl (by rfl) ?_) rfl
        exact hQ _ _ ⟨rfl, hC2, ok.tr, hs⟩
    · rw [if_neg (show ¬ x = 0 from z_out (k := 0) ho (by decide) (by decide)), if_neg (show ¬ x = 1 from z_out (k := 1) ho (by decide) (by decide)), if_neg (show ¬ x = 2 from z_out (k := 2) ho (by decide) (by decide)), if_neg (show ¬ x = 3 from z_out (k := 3) ho (by decide) (by decide)), if_neg (show ¬ x = 4 from z_out (k := 4) ho (by decide) (by decide)), if_neg (show ¬ x = 5 from z_out (k := 5) ho (by decide) (by decide))] at hQ
      refine zb_end (len := 37) (zg_tableOut 88 ho (by decide) ?_) rfl
      refine kX5_mark_88 ?_
      refine zb_go (zg_ldc cX5_211) rfl ?_
      refine zb_end (zg_ireturn rfl (by rfl) ?_) rfl
      exact hQ _ _ ⟨rfl, hC, ok, zSame.rf⟩
  · have c0' := zb_0.mp c0
    rw [zite_f (show ¬ iR G y from c0')] at hQ
    refine zb_go (zg_ldc cX5_211) rfl ?_
    refine zb_end (zg_ireturn rfl (by rfl) ?_) rfl
    exact hQ _ _ ⟨rfl, hC, ok, zSame.rf⟩
end
