/-! THE CLASS (10): night, best, needed -/
noncomputable def sNight (G : zS) (x : Int32) : Int32 := zite (0 ≤ x ∧ x ≤ 3) (if x = 0 then nI (nBest (gP G) (gT G).2.1 / 2 ^ 59) else if x = 1 then nI (nBest (gP G) (gT G).2.1 / 2 ^ 48 % 2 ^ 11) else if x = 2 then nI (nFew (gP G)) else nI (nEven (gP G))) (-1)
def sBell (P : zP) (tw r g : Nat) : Int32 := if nBell P tw r g = 0 then -9 else nI (nBell P tw r g - 1)
noncomputable def sBest (G : zS) (x y : Int32) : Int32 := zite (iR G x ∧ iH G y) (sBell (gP G) (gT G).2.1 x.toNatClampNeg y.toNatClampNeg) (-1)
def sNeed (G : zS) : Int32 := nI (nNeed (gP G))
section
variable {K : zK} {l : Launch} {n p q r g : Nat} {h h1 : zH} {x y z : Int32} {G : zS} {P : zP} {tw : Nat} {fe ev mi : Int32}
theorem nDone.ok (hD : nDone h P tw fe ev mi) (h1 : fe = -1 ∨ fe = nI (nFew P)) (h2 : ev = -1 ∨ ev = nI (nEven P)) (h3 : mi = -1 ∨ mi = nI (nNeed P)) : ∃ N, isNights h N ∧ nOK P tw N := by
  obtain ⟨sets, sin, pr, lw, am, tn, co, fo, pi, hN, hT⟩ := hD
  exact ⟨_, hN, Or.inr ⟨rfl, rfl, rfl, rfl, rfl, hT⟩, h1, h2, h3⟩
theorem cRel.nights (hC : cRel h G) (s : zSame 22 27 h h1) (hN1 : ∃ N, isNights h1 N ∧ nOK (gP G) (gT G).2.1 N) : cRel h1 G := by
  obtain ⟨p, q, P', N, kf, hpq, hat, hsc, hp, hq, hR0, ⟨fi, hfi, hfi2⟩, hkf, hk2, hN, hNo, hi0, hi1⟩ := hC
  obtain ⟨N1, n1, n2⟩ := hN1
  exact ⟨p, q, P', N1, kf, hpq, (s 0 (by omega)).trans hat, hsc.same s (by omega), hp.same s (by omega), hq.same s (by omega), hR0.same s (by omega), ⟨fi, (s 20 (by omega)).trans hfi, hfi2⟩, (s 21 (by omega)).trans hkf, hk2, n1, n2, hi0.same s (by omega), hi1.same s (by omega)⟩
/-- the nights are settled -/
theorem r_settle (hC : cRel h G) (ok : okS G) : ∃ p fe ev mi, (p = 5 ∨ p = 11) ∧ (∃ q, cAt h p q (gTr G)) ∧ isPar h p (gP G) ∧ (fe = -1 ∨ fe = nI (nFew (gP G))) ∧ (ev = -1 ∨ ev = nI (nEven (gP G))) ∧ (mi = -1 ∨ mi = nI (nNeed (gP G))) ∧ (∃ se ri ti re ch r, h 22 = .inr (0, .int se :: .int ri :: .int ti :: .int re :: .long ch :: r)) ∧ (∃ tu, h 17 = .inr (2, [.int tu, .int (nI (gT G).2.1), .ref (17 + 1), .ref (17 + 2)])) ∧
    zRex K l 10 mX1_settle [.ref 22, .ref p, .int (nI (gT G).2.1)] 59 h (fun v h' => v = none ∧ nDone h' (gP G) (gT G).2.1 fe ev mi ∧ zSame 22 27 h h') := by
  obtain ⟨p, q, P', N, kf, hpq, hat, hsc, hp, hq, hR0, ⟨fi, hfi, hfi2⟩, hkf, hk2, hN, hNo, hi0, hi1⟩ := hC
  obtain ⟨se, ri, ti, re, ch, fe, ev, mi, sets, sin, pr, lw, am, tn, co, fo, pi⟩ := N
  obtain ⟨hse, hfe, hev, hmi⟩ := hNo
  obtain ⟨S, B, hR, -, -⟩ := hR0
  refine ⟨p, fe, ev, mi, by omega, ⟨q, hat⟩, hp, hfe, hev, hmi, ⟨_, _, _, _, _, _, hN.1⟩, ⟨_, hR.1⟩, r_X1_settle hN ?_ hp (by omega) ok.1 ok.2.1.2.2.2.2.1⟩
  rcases hse with e | ⟨e1, e2, e3, e4, e5, e6⟩
  · exact Or.inl e
  · refine Or.inr ⟨e1, sets, sin, pr, lw, am, tn, co, fo, pi, ?_, e6⟩
    subst e1 e2 e3 e4 e5
    exact hN
theorem r_X5_needed (hC : cRel h G) (ok : okS G) : zRex K l 11 mX5_needed [.ref 0] 59 h (fun v h' => v = some (.int (sNeed G)) ∧ cRel h' G ∧ okS G ∧ zSame 0 33 h h') := by
  refine zRex.of (by decide) (Nat.le_of_ble_eq_true rfl) (fun Q hQ => ?_)
  obtain ⟨p, fe, ev, mi, hp5, ⟨q, hat⟩, hP, hfe, hev, hmi, ⟨se, ri, ti, re, ch, r, h22⟩, ⟨tu, h17⟩, hset⟩ := r_settle (K := K) (l := l) hC ok
  have hat' : h 0 = _ := hat
  refine kX5_needed_0 ?_
  refine zb_go (zg_aload_n rfl) rfl ?_
  refine zb_go (zg_getfield fX5_44 (by first | decide | assumption | omega) (by repeat (first | assumption | exact z_up_self _ _ _ | refine (z_up_ne (by first | decide | omega)).trans ?_)) (by rfl)) rfl ?_
  refine zb_go (zg_aload_n rfl) rfl ?_
  refine zb_go (zg_getfield fX5_19 (by first | decide | assumption | omega) (by repeat (first | assumption | exact z_up_self _ _ _ | refine (z_up_ne (by first | decide | omega)).trans ?_)) (by rfl)) rfl ?_
  refine zb_go (zg_aload_n rfl) rfl ?_
  refine zb_go (zg_getfield fX5_29 (by first | decide | assumption | omega) (by repeat (first | assumption | exact z_up_self _ _ _ | refine (z_up_ne (by first | decide | omega)).trans ?_)) (by rfl)) rfl ?_
  refine zb_go (zg_getfield fX5_157 (by first | decide | assumption | omega) (by repeat (first | assumption | exact z_up_self _ _ _ | refine (z_up_ne (by first | decide | omega)).trans ?_)) (by rfl)) rfl ?_
  refine zb_callvx hset lX5_174 (by repeat (first | assumption | exact z_up_self _ _ _ | refine (z_up_ne (by first | decide | omega)).trans ?_)) rfl rfl (by first | decide | assumption | omega) (by first | decide | omega) rfl (Nat.le_of_ble_eq_true rfl) rfl ?_
  rintro v h1 ⟨rfl, hD, s1⟩
  have a1 : h1 0 = _ := (s1 0 (by omega)).trans hat'
  obtain ⟨am, tn, co, fo, hc⟩ := hD.cell
  refine zb_go (zg_aload_n rfl) rfl ?_
  refine zb_go (zg_getfield fX5_44 (by first | decide | assumption | omega) (by repeat (first | assumption | exact z_up_self _ _ _ | refine (z_up_ne (by first | decide | omega)).trans ?_)) (by rfl)) rfl ?_
  refine zb_callvx (r_X1_missedRingers hD ok.1 ok.2.1.2.2.2.2.1 hmi) lX5_193 (by repeat (first | assumption | exact z_up_self _ _ _ | refine (z_up_ne (by first | decide | omega)).trans ?_)) rfl rfl (by first | decide | assumption | omega) (by first | decide | omega) rfl (Nat.le_of_ble_eq_true rfl) rfl ?_
  rintro v h2 ⟨rfl, hD2, s2⟩
  refine zb_end (zg_ireturn rfl (by rfl) ?_) rfl
  exact hQ _ _ ⟨rfl, hC.nights (s1.trans s2) (hD2.ok hfe hev (Or.inr rfl)), ok, (s1.trans s2).wide (by omega) (by omega)⟩
theorem r_X5_best (hC : cRel h G) (ok : okS G) : zRex K l 11 mX5_best [.ref 0, .int x, .int y] 59 h (fun v h' => v = some (.int (sBest G x y)) ∧ cRel h' G ∧ okS G ∧ zSame 0 33 h h') := by
  refine zRex.of (by decide) (Nat.le_of_ble_eq_true rfl) (fun Q hQ => ?_)
  obtain ⟨p, fe, ev, mi, hp5, ⟨q, hat⟩, hP, hfe, hev, hmi, ⟨se, ri, ti, re, ch, r, h22⟩, ⟨tu, h17⟩, hset⟩ := r_settle (K := K) (l := l) hC ok
  have hat' : h 0 = _ := hat
  have hp1 := hP.1
  have kH := ok.1.1
  have kR := ok.1.2.1
  unfold sBest at hQ
  refine kX5_best_0 ?_
  refine zb_go (zg_aload_n rfl) rfl ?_
  refine zb_go (zg_getfield fX5_19 (by first | decide | assumption | omega) (by repeat (first | assumption | exact z_up_self _ _ _ | refine (z_up_ne (by first | decide | omega)).trans ?_)) (by rfl)) rfl ?_
  refine zb_go (zg_iload_n rfl) rfl ?_
  refine zb_callv (r_X2_hasRinger hP (show p + 5 < 59 by omega)) lX5_76 (by repeat (first | assumption | exact z_up_self _ _ _ | refine (z_up_ne (by first | decide | omega)).trans ?_)) rfl rfl (by first | decide | assumption | omega) (by first | decide | omega) rfl (Nat.le_of_ble_eq_true rfl) rfl ?_
  refine zb_br (zg_if_eq (tgt := 22) (by decide)) rfl (fun c0 => ?_) (fun c0 => ?_)
  · rw [zite_f (fun q => zb_0.mp c0 q.1)] at hQ
    refine kX5_best_22 ?_
    refine zb_go (zg_iconst (-1) (by decide)) rfl ?_
    refine zb_end (zg_ireturn rfl (by rfl) ?_) rfl
    exact hQ _ _ ⟨rfl, hC, ok, zSame.rf⟩
  · have c0 := zb_n.mp c0
    refine zb_go (zg_aload_n rfl) rfl ?_
    refine zb_go (zg_getfield fX5_19 (by first | decide | assumption | omega) (by repeat (first | assumption | exact z_up_self _ _ _ | refine (z_up_ne (by first | decide | omega)).trans ?_)) (by rfl)) rfl ?_
    refine zb_go (zg_iload_n rfl) rfl ?_
    refine zb_callv (r_X2_hasHour hP (show p + 5 < 59 by omega)) lX5_97 (by repeat (first | assumption | exact z_up_self _ _ _ | refine (z_up_ne (by first | decide | omega)).trans ?_)) rfl rfl (by first | decide | assumption | omega) (by first | decide | omega) rfl (Nat.le_of_ble_eq_true rfl) rfl ?_
    refine zb_br (zg_if_ne (tgt := 24) (by decide)) rfl (fun c1 => ?_) (fun c1 => ?_)
    · have c1 := zb_n.mp c1
      rw [zite_t ⟨c0, c1⟩] at hQ
      obtain ⟨r, hr, rfl⟩ := z_isIx (by omega) c0
      obtain ⟨g, hg, rfl⟩ := z_isIx (by omega) c1
      rw [nI_clamp (by omega), nI_clamp (by omega)] at hQ
      refine kX5_best_24 ?_
      refine zb_go (zg_aload_n rfl) rfl ?_
      refine zb_go (zg_getfield fX5_44 (by first | decide | assumption | omega) (by repeat (first | assumption | exact z_up_self _ _ _ | refine (z_up_ne (by first | decide | omega)).trans ?_)) (by rfl)) rfl ?_
      refine zb_go (zg_aload_n rfl) rfl ?_
      refine zb_go (zg_getfield fX5_19 (by first | decide | assumption | omega) (by repeat (first | assumption | exact z_up_self _ _ _ | refine (z_up_ne (by first | decide | omega)).trans ?_)) (by rfl)) rfl ?_
      refine zb_go (zg_aload_n rfl) rfl ?_
      refine zb_go (zg_getfield fX5_29 (by first | decide | assumption | omega) (by repeat (first | assumption | exact z_up_self _ _ _ | refine (z_up_ne (by first | decide | omega)).trans ?_)) (by rfl)) rfl ?_
      refine zb_go (zg_getfield fX5_157 (by first | decide | assumption | omega) (by repeat (first | assumption | exact z_up_self _ _ _ | refine (z_up_ne (by first | decide | omega)).trans ?_)) (by rfl)) rfl ?_
      refine zb_callvx hset lX5_174 (by repeat (first | assumption | exact z_up_self _ _ _ | refine (z_up_ne (by first | decide | omega)).trans ?_)) rfl rfl (by first | decide | assumption | omega) (by first | decide | omega) rfl (Nat.le_of_ble_eq_true rfl) rfl ?_
      rintro v h1 ⟨rfl, hD, s1⟩
      have a1 : h1 0 = _ := (s1 0 (by omega)).trans hat'
      obtain ⟨am, tn, co, fo, hc⟩ := hD.cell
      refine zb_go (zg_aload_n rfl) rfl ?_
      refine zb_go (zg_getfield fX5_44 (by first | decide | assumption | omega) (by repeat (first | assumption | exact z_up_self _ _ _ | refine (z_up_ne (by first | decide | omega)).trans ?_)) (by rfl)) rfl ?_
      refine zb_go (zg_iload_n rfl) rfl ?_
      refine zb_go (zg_iload_n rfl) rfl ?_
      refine zb_callv (r_X1_firstBell hD (show r < 6 by omega) (show g < 4 by omega)) lX5_190 (by repeat (first | assumption | exact z_up_self _ _ _ | refine (z_up_ne (by first | decide | omega)).trans ?_)) rfl rfl (by first | decide | assumption | omega) (by first | decide | omega) rfl (Nat.le_of_ble_eq_true rfl) rfl ?_
      refine zb_end (zg_ireturn rfl (by rfl) ?_) rfl
      exact hQ _ _ ⟨rfl, hC.nights s1 (hD.ok hfe hev hmi), ok, s1.wide (by omega) (by omega)⟩
    · rw [zite_f (fun q => zb_0.mp c1 q.2)] at hQ
      refine zb_out ?_
      refine kX5_best_22 ?_
      refine zb_go (zg_iconst (-1) (by decide)) rfl ?_
      refine zb_end (zg_ireturn rfl (by rfl) ?_) rfl
      exact hQ _ _ ⟨rfl, hC, ok, zSame.rf⟩
theorem r_X5_night (hC : cRel h G) (ok : okS G) : zRex K l 11 mX5_night [.ref 0, .int x] 59 h (fun v h' => v = some (.int (sNight G x)) ∧ cRel h' G ∧ okS G ∧ zSame 0 33 h h') := by
  refine zRex.of (by decide) (Nat.le_of_ble_eq_true rfl) (fun Q hQ => ?_)
  obtain ⟨p, fe, ev, mi, hp5, ⟨q, hat⟩, hP, hfe, hev, hmi, ⟨se, ri, ti, re, ch, r, h22⟩, ⟨tu, h17⟩, hset⟩ := r_settle (K := K) (l := l) hC ok
  have hat' : h 0 = _ := hat
  have htw := ok.2.1.2.2.2.2.1
  unfold sNight at hQ
  refine kX5_night_0 ?_
  refine zb_go (zg_iload_n rfl) rfl ?_
  refine zb_br (zg_if_lt (tgt := 9) (by decide)) rfl (fun c0 => ?_) (fun c0 => ?_)
  · rw [zite_f (fun q => Int32.not_le.mpr c0 q.1)] at hQ
    refine kX5_night_9 ?_
    refine zb_go (zg_iconst (-1) (by decide)) rfl ?_
    refine zb_end (zg_ireturn rfl (by rfl) ?_) rfl
    exact hQ _ _ ⟨rfl, hC, ok, zSame.rf⟩
  · refine zb_go (zg_iload_n rfl) rfl ?_
    refine zb_go (zg_iconst 3 (by decide)) rfl ?_
    refine zb_br (zg_icmp_le (tgt := 11) (by decide)) rfl (fun c1 => ?_) (fun c1 => ?_)
    · have c2 : 0 ≤ x ∧ x ≤ 3 := ⟨Int32.not_lt.mp c0, c1⟩
      rw [zite_t c2] at hQ
      obtain ⟨k, hk, rfl⟩ := z_leN (N := 3) (by decide) c2
      refine kX5_night_11 ?_
      refine zb_go (zg_aload_n rfl) rfl ?_
      refine zb_go (zg_getfield fX5_44 (by first | decide | assumption | omega) (by repeat (first | assumption | exact z_up_self _ _ _ | refine (z_up_ne (by first | decide | omega)).trans ?_)) (by rfl)) rfl ?_
      refine zb_go (zg_aload_n rfl) rfl ?_
      refine zb_go (zg_getfield fX5_19 (by first | decide | assumption | omega) (by repeat (first | assumption | exact z_up_self _ _ _ | refine (z_up_ne (by first | decide | omega)).trans ?_)) (by rfl)) rfl ?_
      refine zb_go (zg_aload_n rfl) rfl ?_
      refine zb_go (zg_getfield fX5_29 (by first | decide | assumption | omega) (by repeat (first | assumption | exact z_up_self _ _ _ | refine (z_up_ne (by first | decide | omega)).trans ?_)) (by rfl)) rfl ?_
      refine zb_go (zg_getfield fX5_157 (by first | decide | assumption | omega) (by repeat (first | assumption | exact z_up_self _ _ _ | refine (z_up_ne (by first | decide | omega)).trans ?_)) (by rfl)) rfl ?_
      refine zb_callvx hset lX5_174 (by repeat (first | assumption | exact z_up_self _ _ _ | refine (z_up_ne (by first | decide | omega)).trans ?_)) rfl rfl (by first | decide | assumption | omega) (by first | decide | omega) rfl (Nat.le_of_ble_eq_true rfl) rfl ?_
      rintro v h1 ⟨rfl, hD, s1⟩
      have a1 : h1 0 = _ := (s1 0 (by omega)).trans hat'
      obtain ⟨am, tn, co, fo, hc⟩ := hD.cell
      refine zb_go (zg_iload_n rfl) rfl ?_
      rcases (show k = 0 ∨ k = 1 ∨ k = 2 ∨ k = 3 by omega) with rfl | rfl | rfl | rfl
      · rw [if_pos (by decide)] at hQ
        refine zb_end (len := 26) (zg_tableIn 26 56 (by decide) (by decide) (by rfl) (by decide) ?_) rfl
        refine kX5_night_56 ?_
        refine zb_go (zg_aload_n rfl) rfl ?_
        refine zb_go (zg_getfield fX5_44 (by first | decide | assumption | omega) (by repeat (first | assumption | exact z_up_self _ _ _ | refine (z_up_ne (by first | decide | omega)).trans ?_)) (by rfl)) rfl ?_
        refine zb_callv (r_X1_fewestShort hD) lX5_178 (by repeat (first | assumption | exact z_up_self _ _ _ | refine (z_up_ne (by first | decide | omega)).trans ?_)) rfl rfl (by first | decide | assumption | omega) (by first | decide | omega) rfl (Nat.le_of_ble_eq_true rfl) rfl ?_
        refine zb_end (zg_ireturn rfl (by rfl) ?_) rfl
        exact hQ _ _ ⟨rfl, hC.nights s1 (hD.ok hfe hev hmi), ok, s1.wide (by omega) (by omega)⟩
      · rw [if_neg (by decide), if_pos (by decide)] at hQ
        refine zb_end (len := 26) (zg_tableIn 34 64 (by decide) (by decide) (by rfl) (by decide) ?_) rfl
        refine kX5_night_64 ?_
        refine zb_go (zg_aload_n rfl) rfl ?_
        refine zb_go (zg_getfield fX5_44 (by first | decide | assumption | omega) (by repeat (first | assumption | exact z_up_self _ _ _ | refine (z_up_ne (by first | decide | omega)).trans ?_)) (by rfl)) rfl ?_
        refine zb_callv (r_X1_leastWalk hD) lX5_181 (by repeat (first | assumption | exact z_up_self _ _ _ | refine (z_up_ne (by first | decide | omega)).trans ?_)) rfl rfl (by first | decide | assumption | omega) (by first | decide | omega) rfl (Nat.le_of_ble_eq_true rfl) rfl ?_
        refine zb_end (zg_ireturn rfl (by rfl) ?_) rfl
        exact hQ _ _ ⟨rfl, hC.nights s1 (hD.ok hfe hev hmi), ok, s1.wide (by omega) (by omega)⟩
      · rw [if_neg (by decide), if_neg (by decide), if_pos (by decide)] at hQ
        refine zb_end (len := 26) (zg_tableIn 42 72 (by decide) (by decide) (by rfl) (by decide) ?_) rfl
        refine kX5_night_72 ?_
        refine zb_go (zg_aload_n rfl) rfl ?_
        refine zb_go (zg_getfield fX5_44 (by first | decide | assumption | omega) (by repeat (first | assumption | exact z_up_self _ _ _ | refine (z_up_ne (by first | decide | omega)).trans ?_)) (by rfl)) rfl ?_
        refine zb_callvx (r_X1_fewestRingers hD ok.1 htw hfe) lX5_184 (by repeat (first | assumption | exact z_up_self _ _ _ | refine (z_up_ne (by first | decide | omega)).trans ?_)) rfl rfl (by first | decide | assumption | omega) (by first | decide | omega) rfl (Nat.le_of_ble_eq_true rfl) rfl ?_
        rintro v h2 ⟨rfl, hD2, s2⟩
        refine zb_end (zg_ireturn rfl (by rfl) ?_) rfl
        exact hQ _ _ ⟨rfl, hC.nights (s1.trans s2) (hD2.ok (Or.inr rfl) hev hmi), ok, (s1.trans s2).wide (by omega) (by omega)⟩
      · rw [if_neg (by decide), if_neg (by decide), if_neg (by decide)] at hQ
        have ho : (nI 3).toInt < 0 ∨ 2 < (nI 3).toInt := Or.inr (by decide)
        refine zb_end (len := 26) (zg_tableOut 80 ho (by decide) ?_) rfl
        refine kX5_night_80 ?_
        refine zb_go (zg_aload_n rfl) rfl ?_
        refine zb_go (zg_getfield fX5_44 (by first | decide | assumption | omega) (by repeat (first | assumption | exact z_up_self _ _ _ | refine (z_up_ne (by first | decide | omega)).trans ?_)) (by rfl)) rfl ?_
        refine zb_callvx (r_X1_mostEven hD ok.1 htw hev) lX5_187 (by repeat (first | assumption | exact z_up_self _ _ _ | refine (z_up_ne (by first | decide | omega)).trans ?_)) rfl rfl (by first | decide | assumption | omega) (by first | decide | omega) rfl (Nat.le_of_ble_eq_true rfl) rfl ?_
        rintro v h2 ⟨rfl, hD2, s2⟩
        refine zb_end (zg_ireturn rfl (by rfl) ?_) rfl
        exact hQ _ _ ⟨rfl, hC.nights (s1.trans s2) (hD2.ok hfe (Or.inr rfl) hmi), ok, (s1.trans s2).wide (by omega) (by omega)⟩
    · refine zb_out ?_
      refine kX5_night_9 ?_
      refine zb_go (zg_iconst (-1) (by decide)) rfl ?_
      refine zb_end (zg_ireturn rfl (by rfl) ?_) rfl
      rw [zite_f (fun q => c1 q.2)] at hQ
      exact hQ _ _ ⟨rfl, hC, ok, zSame.rf⟩
end
