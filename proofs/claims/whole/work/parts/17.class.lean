/-! THE CLASS (5): moves, heard, forget, away, exchange -/
def tPlace (T : zT) (w : Nat) : zT := (T.1, w, T.2.2)
def tHear (T : zT) (g v : Nat) : zT := (T.1, T.2.1, zupd T.2.2 g v)
def tDeaf (T : zT) : zT := (T.1, T.2.1, fun _ => 0)
noncomputable def sMoves (G : zS) (x : Int32) : Int32 × zS := zite (0 ≤ x ∧ x ≤ 60) (nI (gT G).2.1, wT G (tPlace (gT G) x.toNatClampNeg)) (-1, G)
noncomputable def sHeard (G : zS) (x y : Int32) : Int32 × zS := zite (iH G x ∧ 0 ≤ y ∧ y ≤ 3) (heardI (gT G) x.toNatClampNeg, wT G (tHear (gT G) x.toNatClampNeg (y.toNatClampNeg + 1))) (-1, G)
def sForget (G : zS) : Int32 × zS := (nI (zcnt (fun g => decide ((gT G).2.2 g ≠ 0)) 4), wT G (tDeaf (gT G)))
theorem okT.place {P : zP} {T : zT} {w : Nat} (ok : okT P T) (hw : w ≤ 60) : okT P (tPlace T w) := ⟨ok.1, ok.2.1, ok.2.2.1, ok.2.2.2.1, hw, ok.2.2.2.2.2⟩
theorem okT.hear {P : zP} {T : zT} {g v : Nat} (ok : okT P T) (hv : v ≤ 4) : okT P (tHear T g v) := ⟨ok.1, ok.2.1, ok.2.2.1, ok.2.2.2.1, ok.2.2.2.2.1, fun k hk => by
  show zupd T.2.2 g v k ≤ 4
  unfold zupd
  split
  · exact hv
  · exact ok.2.2.2.2.2 k hk⟩
theorem okT.deaf {P : zP} {T : zT} (ok : okT P T) : okT P (tDeaf T) := ⟨ok.1, ok.2.1, ok.2.2.1, ok.2.2.2.1, ok.2.2.2.2.1, fun _ _ => Nat.zero_le _⟩
def nUn (N : zN) : zN := (0, N.2)
theorem nOK.un {P : zP} {tw : Nat} {N : zN} (h : nOK P tw N) (tw' : Nat) : nOK P tw' (nUn N) := by
  obtain ⟨se, ri, ti, re, ch, fe, ev, mi, r⟩ := N
  exact ⟨Or.inl rfl, h.2⟩
/-- whether these ringers can have stayed away -/
def aFit (T : zT) (s : Nat) : Bool := decide (zdif s (tOr T) = 0) && zall (fun q => decide (T.2.2 q = 0) || decide (T.2.2 q = zpop (zdif (tIn T q) s) + 1)) 4
def aWays (T : zT) : Nat → Nat := zcnt (aFit T)
def aSure (T : zT) : Nat → Nat
  | 0 => tOr T
  | k + 1 => if aFit T k then aSure T k &&& k else aSure T k
def aEver (T : zT) : Nat → Nat
  | 0 => 0
  | k + 1 => if aFit T k then aEver T k ||| k else aEver T k
noncomputable def sAway (G : zS) (x : Int32) : Int32 := zite (0 ≤ x ∧ x ≤ 2) (if x = 0 then nI (aWays (gT G) 64) else if x = 1 then (if aWays (gT G) 64 = 0 then 0 else nI (aSure (gT G) 64)) else nI (zdif (tOr (gT G)) (aEver (gT G) 64))) (-1)
theorem rS_fit {S : Nat → Int32} {T : zT} {P : zP} (okt : okT P T) (hS : rS S T) {q m : Nat} (hq : q < 4) (hm : m ≤ 6) : (S q = -9 ∨ S q = nI m) ↔ (T.2.2 q = 0 ∨ T.2.2 q = m + 1) := by
  rw [hS q hq]
  have := okt.2.2.2.2.2 q hq
  by_cases h : T.2.2 q = 0
  · rw [if_pos h]; exact ⟨fun _ => Or.inl h, fun _ => Or.inl rfl⟩
  · rw [if_neg h]
    constructor
    · rintro (z | z)
      · exact absurd z (nI_ne9 (by omega))
      · have := (nI_eq (by omega) (by omega)).mp z
        exact Or.inr (by omega)
    · rintro (z | z)
      · exact absurd z h
      · rw [z]; exact Or.inr rfl
section
variable {K : zK} {l : Launch} {n p q r g : Nat} {h : zH} {x y z : Int32} {G : zS}
theorem r_X1_forTower {N : zN} (hN : isNights h N) : zRex K l 0 mX1_forTower [.ref 22] 59 h (fun v h' => v = none ∧ isNights h' (nUn N) ∧ zSame 22 22 h h') := by
  refine zRex.of (by decide) (Nat.le_of_ble_eq_true rfl) (fun Q hQ => ?_)
  obtain ⟨se, ri, ti, re, ch, fe, ev, mi, sets, sin, pr, lw, am, tn, co, fo, pi⟩ := N
  obtain ⟨h1, h2, h3, h4, h5, h6⟩ := hN
  refine kX1_forTower_0 ?_
  refine zb_go (zg_aload_n rfl) rfl ?_
  refine zb_go (zg_iconst 0 (by decide)) rfl ?_
  refine zb_go (zg_putfield fX1_11 (by first | assumption | decide | omega) (by repeat (first | assumption | exact z_up_self _ _ _ | refine (z_up_ne (by first | decide | omega)).trans ?_)) (by exact Nat.le_of_ble_eq_true rfl) (by rfl) (by rfl) (by first | exact Or.inl rfl | exact Or.inr ⟨rfl, rfl⟩)) rfl ?_
  refine zb_end (zg_return rfl ?_) rfl
  exact hQ _ _ ⟨rfl, ⟨z_up_self _ _ _, (z_up_ne (by decide)).trans h2, (z_up_ne (by decide)).trans h3, (z_up_ne (by decide)).trans h4, (z_up_ne (by decide)).trans h5, (z_up_ne (by decide)).trans h6⟩, zSame.rf.up (by omega) (by omega)⟩
theorem isNights.cell {N : zN} (hN : isNights h N) : h 22 = .inr (0, [.int N.1, .int N.2.1, .int N.2.2.1, .int N.2.2.2.1, .long N.2.2.2.2.1, .int N.2.2.2.2.2.1, .int N.2.2.2.2.2.2.1, .int N.2.2.2.2.2.2.2.1, .ref 23, .ref 24, .ref 25, .ref 26, .int N.2.2.2.2.2.2.2.2.2.2.2.2.1, .int N.2.2.2.2.2.2.2.2.2.2.2.2.2.1, .long N.2.2.2.2.2.2.2.2.2.2.2.2.2.2.1, .long N.2.2.2.2.2.2.2.2.2.2.2.2.2.2.2.1, .ref 27]) := by
  obtain ⟨se, ri, ti, re, ch, fe, ev, mi, sets, sin, pr, lw, am, tn, co, fo, pi⟩ := N
  exact hN.1
theorem isNights.inj {N N' : zN} (hN : isNights h N) (hN' : isNights h N') : N = N' := by
  obtain ⟨se, ri, ti, re, ch, fe, ev, mi, sets, sin, pr, lw, am, tn, co, fo, pi⟩ := N
  obtain ⟨se', ri', ti', re', ch', fe', ev', mi', sets', sin', pr', lw', am', tn', co', fo', pi'⟩ := N'
  obtain ⟨a1, a2, a3, a4, a5, a6⟩ := hN
  obtain ⟨b1, b2, b3, b4, b5, b6⟩ := hN'
  have c1 := a1.symm.trans b1
  have c2 := a2.symm.trans b2
  have c3 := a3.symm.trans b3
  have c4 := a4.symm.trans b4
  have c5 := a5.symm.trans b5
  have c6 := a6.symm.trans b6
  simp only [Sum.inr.injEq, Sum.inl.injEq, Prod.mk.injEq, List.cons.injEq, Value.int.injEq, Value.long.injEq, true_and, and_true] at c1 c2 c3 c4 c5 c6
  obtain ⟨rfl, rfl, rfl, rfl, rfl, rfl, rfl, rfl, rfl, rfl, rfl, rfl⟩ := c1
  subst c2 c3 c4 c5 c6
  rfl
/-- NOW changed, nights unsettled -/
theorem cRel.moved {h h1 h2 : zH} {G : zS} {T : zT} (hC : cRel h G) (s : zSame 17 19 h h1) (hR : cRota h1 17 T) (s2 : zSame 22 22 h1 h2) (hN2 : ∀ N, isNights h1 N → isNights h2 (nUn N)) : cRel h2 (wT G T) := by
  obtain ⟨p, q, P', N, kf, hpq, hat, hsc, hp, hq, hR0, ⟨fi, hfi, hfi2⟩, hkf, hk2, hN, hNo, hi0, hi1⟩ := hC
  exact ⟨p, q, P', nUn N, kf, hpq, (s2 0 (by omega)).trans ((s 0 (by omega)).trans hat), (hsc.same s (by omega)).same s2 (by omega), (hp.same s (by omega)).same s2 (by omega), (hq.same s (by omega)).same s2 (by omega), hR.same s2 (by omega), ⟨fi, (s2 20 (by omega)).trans ((s 20 (by omega)).trans hfi), hfi2⟩, (s2 21 (by omega)).trans ((s 21 (by omega)).trans hkf), hk2, hN2 N (hN.same s (by omega)), hNo.un _, (hi0.same s (by omega)).same s2 (by omega), (hi1.same s (by omega)).same s2 (by omega)⟩
theorem z_le60 (h : 0 ≤ x ∧ x ≤ 60) : ∃ k, k ≤ 60 ∧ x = nI k := by
  obtain ⟨j, hj, rfl⟩ := nI_of (Int32.not_lt.mpr h.1)
  exact ⟨j, (nI_leI (b := 60) hj (by decide)).mp h.2, rfl⟩
theorem z_leN {N : Nat} (hN : N < 2 ^ 31) (h : 0 ≤ x ∧ x ≤ nI N) : ∃ k, k ≤ N ∧ x = nI k := by
  obtain ⟨j, hj, rfl⟩ := nI_of (Int32.not_lt.mpr h.1)
  exact ⟨j, (nI_leI (b := N) hj (by omega)).mp h.2, rfl⟩
theorem r_X5_moves (hC : cRel h G) (ok : okS G) : zRex K l 1 mX5_moves [.ref 0, .int x] 59 h (fun v h' => v = some (.int (sMoves G x).1) ∧ cRel h' (sMoves G x).2 ∧ okS (sMoves G x).2 ∧ zSame 0 33 h h') := by
  refine zRex.of (by decide) (Nat.le_of_ble_eq_true rfl) (fun Q hQ => ?_)
  obtain ⟨p, q, P', N, kf, hpq, hat, hsc, hp, hq, ⟨S, B, hR, hB, hS⟩, hfi, hkf, hk2, hN, hNo, hi0, hi1⟩ := id hC
  have okp := ok.1
  have okt := ok.2.1
  have hpn : p + 5 < 59 := by omega
  have hat' : h 0 = _ := hat
  have h17 := hR.1
  have kH := okp.1
  have kR := okp.2.1
  have hp1 := hp.1
  unfold sMoves at hQ
  refine kX5_moves_0 ?_
  refine zb_go (zg_iload_n rfl) rfl ?_
  refine zb_br (zg_if_lt (tgt := 10) (by decide)) rfl (fun c0 => ?_) (fun c0 => ?_)
  · rw [zite_f (fun q => Int32.not_le.mpr c0 q.1)] at hQ
    refine kX5_moves_10 ?_
    refine zb_go (zg_iconst (-1) (by decide)) rfl ?_
    refine zb_end (zg_ireturn rfl (by rfl) ?_) rfl
    exact hQ _ _ ⟨rfl, hC, ok, zSame.rf⟩
  · refine zb_go (zg_iload_n rfl) rfl ?_
    refine zb_go (zg_bipush 60 (by decide)) rfl ?_
    refine zb_br (zg_icmp_le (tgt := 12) (by decide)) rfl (fun c1 => ?_) (fun c1 => ?_)
    · have c2 : 0 ≤ x ∧ x ≤ 60 := ⟨Int32.not_lt.mp c0, c1⟩
      rw [zite_t c2] at hQ
      obtain ⟨k, hk, rfl⟩ := z_le60 c2
      rw [nI_clamp (by omega)] at hQ
      have gN : isNights (z_up h 17 (.inr (2, [.int (nI (tAll (gT G))), .int (nI k), .ref (17 + 1), .ref (17 + 2)]))) N := hN.same (lo := 17) (hi := 17) (zSame.rf.up (by omega) (by omega)) (by omega)
      have h22 := hN.cell
      refine kX5_moves_12 ?_
      refine zb_go (zg_aload_n rfl) rfl ?_
      refine zb_go (zg_getfield fX5_29 (by first | assumption | decide | omega) (by repeat (first | assumption | exact z_up_self _ _ _ | refine (z_up_ne (by first | decide | omega)).trans ?_)) (by rfl)) rfl ?_
      refine zb_go (zg_getfield fX5_157 (by first | assumption | decide | omega) (by repeat (first | assumption | exact z_up_self _ _ _ | refine (z_up_ne (by first | decide | omega)).trans ?_)) (by rfl)) rfl ?_
      refine zb_go (zg_istore_n (by decide)) rfl ?_
      refine zb_go (zg_aload_n rfl) rfl ?_
      refine zb_go (zg_getfield fX5_29 (by first | assumption | decide | omega) (by repeat (first | assumption | exact z_up_self _ _ _ | refine (z_up_ne (by first | decide | omega)).trans ?_)) (by rfl)) rfl ?_
      refine zb_go (zg_iload_n rfl) rfl ?_
      refine zb_go (zg_putfield fX5_157 (by first | assumption | decide | omega) (by repeat (first | assumption | exact z_up_self _ _ _ | refine (z_up_ne (by first | decide | omega)).trans ?_)) (by exact Nat.le_of_ble_eq_true rfl) (by rfl) (by rfl) (by first | exact Or.inl rfl | exact Or.inr ⟨rfl, rfl⟩)) rfl ?_
      refine zb_go (zg_aload_n rfl) rfl ?_
      refine zb_go (zg_getfield fX5_44 (by first | assumption | decide | omega) (by repeat (first | assumption | exact z_up_self _ _ _ | refine (z_up_ne (by first | decide | omega)).trans ?_)) (by rfl)) rfl ?_
      refine zb_callvx (r_X1_forTower gN) lX5_162 (by repeat (first | assumption | exact z_up_self _ _ _ | refine (z_up_ne (by first | decide | omega)).trans ?_)) rfl rfl (by first | assumption | decide | omega) (by decide) rfl (Nat.le_of_ble_eq_true rfl) rfl ?_
      rintro v h1 ⟨rfl, hN1, hs⟩
      refine zb_go (zg_iload_n rfl) rfl ?_
      refine zb_end (zg_ireturn rfl (by rfl) ?_) rfl
      have s1 : zSame 17 19 h (z_up h 17 (.inr (2, [.int (nI (tAll (gT G))), .int (nI k), .ref (17 + 1), .ref (17 + 2)]))) := zSame.rf.up (by omega) (by omega)
      refine hQ _ _ ⟨rfl, ?_, ok.wT (okt.place hk), (s1.wide (by omega) (by omega)).trans (hs.wide (by omega) (by omega))⟩
      exact hC.moved s1 ⟨S, B, ⟨z_up_self _ _ _, (z_up_ne (by decide)).trans hR.2.1, (z_up_ne (by decide)).trans hR.2.2⟩, hB, hS⟩ hs (fun N' hN' => by rw [hN'.inj gN]; exact hN1)
    · refine zb_out ?_
      refine kX5_moves_10 ?_
      refine zb_go (zg_iconst (-1) (by decide)) rfl ?_
      refine zb_end (zg_ireturn rfl (by rfl) ?_) rfl
      rw [zite_f (fun q => c1 q.2)] at hQ
      exact hQ _ _ ⟨rfl, hC, ok, zSame.rf⟩
theorem z_ixN {N k : Nat} (hk : k < N) (hN : N < 2 ^ 31) : zIx (nI k) N k := zIx.nI hk hN
theorem rS_hear {S : Nat → Int32} {T : zT} {g k : Nat} (hS : rS S T) : rS (upd S g (nI k)) (tHear T g (k + 1)) := by
  intro j hj
  show upd S g (nI k) j = if zupd T.2.2 g (k + 1) j = 0 then -9 else nI (zupd T.2.2 g (k + 1) j - 1)
  by_cases q : j = g
  · rw [q, pk_us, zupd, if_pos rfl, if_neg (by omega), Nat.add_sub_cancel]
  · rw [pk_un q, zupd, if_neg q]
    exact hS j hj
theorem r_X5_heard (hC : cRel h G) (ok : okS G) : zRex K l 1 mX5_heard [.ref 0, .int x, .int y] 59 h (fun v h' => v = some (.int (sHeard G x y).1) ∧ cRel h' (sHeard G x y).2 ∧ okS (sHeard G x y).2 ∧ zSame 0 33 h h') := by
  refine zRex.of (by decide) (Nat.le_of_ble_eq_true rfl) (fun Q hQ => ?_)
  obtain ⟨p, q, P', N, kf, hpq, hat, hsc, hp, hq, ⟨S, B, hR, hB, hS⟩, hfi, hkf, hk2, hN, hNo, hi0, hi1⟩ := id hC
  have okp := ok.1
  have okt := ok.2.1
  have hpn : p + 5 < 59 := by omega
  have hat' : h 0 = _ := hat
  have h17 := hR.1
  have kH := okp.1
  have kR := okp.2.1
  have hp1 := hp.1
  obtain ⟨-, h18, h19⟩ := id hR
  unfold sHeard at hQ
  have bad : ¬ (iH G x ∧ 0 ≤ y ∧ y ≤ 3) → zGo K l 1 mX5_heard 20 (lv_args 0 [.ref 0, .int x, .int y]) [] 59 h 0 0 Q := by
    intro hn
    rw [zite_f hn] at hQ
    refine kX5_heard_20 ?_
    refine zb_go (zg_iconst (-1) (by decide)) rfl ?_
    refine zb_end (zg_ireturn rfl (by rfl) ?_) rfl
    exact hQ _ _ ⟨rfl, hC, ok, zSame.rf⟩
  refine kX5_heard_0 ?_
  refine zb_go (zg_aload_n rfl) rfl ?_
  refine zb_go (zg_getfield fX5_19 (by first | assumption | decide | omega) (by repeat (first | assumption | exact z_up_self _ _ _ | refine (z_up_ne (by first | decide | omega)).trans ?_)) (by rfl)) rfl ?_
  refine zb_go (zg_iload_n rfl) rfl ?_
  refine zb_callv (r_X2_hasHour hp hpn) lX5_97 (by repeat (first | assumption | exact z_up_self _ _ _ | refine (z_up_ne (by first | decide | omega)).trans ?_)) rfl rfl (by first | assumption | decide | omega) (by decide) rfl (Nat.le_of_ble_eq_true rfl) rfl ?_
  refine zb_br (zg_if_eq (tgt := 20) (by decide)) rfl (fun c0 => ?_) (fun c0 => ?_)
  · have c0 := zb_0.mp c0
    exact bad (fun q => c0 q.1)
  · have c0' := zb_n.mp c0
    have c0 : iH G x := c0'
    refine zb_go (zg_iload_n rfl) rfl ?_
    refine zb_br (zg_if_lt (tgt := 20) (by decide)) rfl (fun c1 => ?_) (fun c1 => ?_)
    · exact bad (fun q => Int32.not_le.mpr c1 q.2.1)
    · refine zb_go (zg_iload_n rfl) rfl ?_
      refine zb_go (zg_iconst 3 (by decide)) rfl ?_
      refine zb_br (zg_icmp_le (tgt := 22) (by decide)) rfl (fun c2 => ?_) (fun c2 => ?_)
      · have c3 : 0 ≤ y ∧ y ≤ nI 3 := ⟨Int32.not_lt.mp c1, c2⟩
        rw [zite_t ⟨c0, c3⟩] at hQ
        obtain ⟨g, hg, rfl⟩ := z_isIx (by omega) c0
        obtain ⟨k, hk, rfl⟩ := z_leN (by decide) c3
        rw [nI_clamp (by omega), nI_clamp (by omega)] at hQ
        refine kX5_heard_22 ?_
        refine zb_go (zg_aload_n rfl) rfl ?_
        refine zb_go (zg_getfield fX5_29 (by first | assumption | decide | omega) (by repeat (first | assumption | exact z_up_self _ _ _ | refine (z_up_ne (by first | decide | omega)).trans ?_)) (by rfl)) rfl ?_
        refine zb_go (zg_getfield fX5_111 (by first | assumption | decide | omega) (by repeat (first | assumption | exact z_up_self _ _ _ | refine (z_up_ne (by first | decide | omega)).trans ?_)) (by rfl)) rfl ?_
        refine zb_go (zg_iload_n rfl) rfl ?_
        refine zb_go (zi_iaload (by first | assumption | decide | omega) (by repeat (first | assumption | exact z_up_self _ _ _ | refine (z_up_ne (by first | decide | omega)).trans ?_)) (by first | assumption | exact zIx.nI (by omega) (by decide) | exact ⟨by decide, by decide⟩)) rfl ?_
        refine zb_go (zg_istore_n (by decide)) rfl ?_
        refine zb_go (zg_aload_n rfl) rfl ?_
        refine zb_go (zg_getfield fX5_29 (by first | assumption | decide | omega) (by repeat (first | assumption | exact z_up_self _ _ _ | refine (z_up_ne (by first | decide | omega)).trans ?_)) (by rfl)) rfl ?_
        refine zb_go (zg_getfield fX5_111 (by first | assumption | decide | omega) (by repeat (first | assumption | exact z_up_self _ _ _ | refine (z_up_ne (by first | decide | omega)).trans ?_)) (by rfl)) rfl ?_
        refine zb_go (zg_iload_n rfl) rfl ?_
        refine zb_go (zg_iload_n rfl) rfl ?_
        refine zb_go (zi_iastore (by first | assumption | decide | omega) (by repeat (first | assumption | exact z_up_self _ _ _ | refine (z_up_ne (by first | decide | omega)).trans ?_)) (by first | assumption | exact zIx.nI (by omega) (by decide) | exact ⟨by decide, by decide⟩)) rfl ?_
        refine zb_go (zg_iload_n rfl) rfl ?_
        refine zb_end (zg_ireturn rfl (by rfl) ?_) rfl
        rw [hS g (by omega)]
        have s1 : zSame 17 19 h (z_up h (17 + 1) (.inl (0, 4, .inl (upd S g (nI k))))) := zSame.rf.up (by omega) (by omega)
        refine hQ _ _ ⟨rfl, hC.rota s1 ⟨upd S g (nI k), B, ⟨(z_up_ne (by decide)).trans hR.1, z_up_self _ _ _, (z_up_ne (by decide)).trans hR.2.2⟩, hB, rS_hear hS⟩ rfl, ok.wT (okt.hear (by omega)), s1.wide (by omega) (by omega)⟩
      · refine zb_out ?_
        refine kX5_heard_20 ?_
        refine zb_go (zg_iconst (-1) (by decide)) rfl ?_
        refine zb_end (zg_ireturn rfl (by rfl) ?_) rfl
        rw [zite_f (fun q => c2 q.2.2)] at hQ
        exact hQ _ _ ⟨rfl, hC, ok, zSame.rf⟩
theorem r_X5_forget (hC : cRel h G) (ok : okS G) : zRex K l 0 mX5_forget [.ref 0] 59 h (fun v h' => v = some (.int (sForget G).1) ∧ cRel h' (sForget G).2 ∧ okS (sForget G).2 ∧ zSame 0 33 h h') := by
  refine zRex.of (by decide) (Nat.le_of_ble_eq_true rfl) (fun Q hQ => ?_)
  obtain ⟨p, q, P', N, kf, hpq, hat, hsc, hp, hq, ⟨S, B, hR, hB, hS⟩, hfi, hkf, hk2, hN, hNo, hi0, hi1⟩ := id hC
  have okp := ok.1
  have okt := ok.2.1
  have hpn : p + 5 < 59 := by omega
  have hat' : h 0 = _ := hat
  have h17 := hR.1
  have kH := okp.1
  have kR := okp.2.1
  have hp1 := hp.1
  have lp : ∀ k, k ≤ 4 → ∀ h0 S', isRota h0 17 (nI (tAll (gT G))) (nI (gT G).2.1) S' B → (∀ j, j < k → S' j = -9) → (∀ j, k ≤ j → j < 4 → S' j = S j) → zSame 17 19 h h0 → zGo K l 0 mX5_forget 4 [(0, .ref 0), (1, .int (nI (zcnt (fun g => decide ((gT G).2.2 g ≠ 0)) k))), (2, .int (nI k))] [] 59 h0 0 0 Q := by
    refine z_down 4 (fun k hk ih h0 S' hR0 hS1 hS2 hs => ?_)
    obtain ⟨g1, g2, g3⟩ := id hR0
    have gat : h0 0 = _ := (hs 0 (by omega)).trans hat'
    refine kX5_forget_4 ?_
    refine zb_go (zg_iload_n rfl) rfl ?_
    refine zb_go (zg_iconst 4 (by decide)) rfl ?_
    refine zb_br (zg_icmp_ge (tgt := 43) (by decide)) rfl (fun c => ?_) (fun c => ?_)
    · have e : k = 4 := by
        have := (nI_leI (a := 4) (b := k) (by decide) (by omega)).mp c
        omega
      subst e
      refine kX5_forget_43 ?_
      refine zb_go (zg_iload_n rfl) rfl ?_
      refine zb_end (zg_ireturn rfl (by rfl) ?_) rfl
      exact hQ _ _ ⟨rfl, hC.rota hs ⟨S', B, hR0, hB, fun j hj => by rw [hS1 j hj]; rfl⟩ rfl, ok.wT okt.deaf, hs.wide (by omega) (by omega)⟩
    · have hk4 : k < 4 := Nat.not_le.mp (fun q => c (nI_le q (by omega)))
      have e9 : S' k = -9 ↔ (gT G).2.2 k = 0 := by
        rw [hS2 k (Nat.le_refl _) hk4, hS k hk4]
        have := okt.2.2.2.2.2 k hk4
        by_cases q : (gT G).2.2 k = 0
        · rw [if_pos q]; exact ⟨fun _ => q, fun _ => rfl⟩
        · rw [if_neg q]; exact ⟨fun z => absurd z (nI_ne9 (by omega)), fun z => absurd z q⟩
      refine zb_go (zg_aload_n rfl) rfl ?_
      refine zb_go (zg_getfield fX5_29 (by first | assumption | decide | omega) (by repeat (first | assumption | exact z_up_self _ _ _ | refine (z_up_ne (by first | decide | omega)).trans ?_)) (by rfl)) rfl ?_
      refine zb_go (zg_getfield fX5_111 (by first | assumption | decide | omega) (by repeat (first | assumption | exact z_up_self _ _ _ | refine (z_up_ne (by first | decide | omega)).trans ?_)) (by rfl)) rfl ?_
      refine zb_go (zg_iload_n rfl) rfl ?_
      refine zb_go (zi_iaload (by first | assumption | decide | omega) (by repeat (first | assumption | exact z_up_self _ _ _ | refine (z_up_ne (by first | decide | omega)).trans ?_)) (by first | assumption | exact zIx.nI (by omega) (by decide) | exact ⟨by decide, by decide⟩)) rfl ?_
      refine zb_go (zg_bipush (-9) (by decide)) rfl ?_
      refine zb_br (zg_icmp_eq (tgt := 37) (by decide)) rfl (fun c1 => ?_) (fun c1 => ?_)
      · have z0 := e9.mp c1
        have e : zcnt (fun g => decide ((gT G).2.2 g ≠ 0)) (k + 1) = zcnt (fun g => decide ((gT G).2.2 g ≠ 0)) k := by simp [zcnt, z0]
        refine kX5_forget_37 ?_
        refine zb_go (zg_iinc 1 (by decide) rfl (by decide)) rfl ?_
        refine zb_end (zg_goto (tgt := 4) (by decide) ?_) rfl
        rw [nI_1, ← e]
        refine ih hk4 h0 S' hR0 (fun j hj => ?_) (fun j h1 h2 => hS2 j (by omega) h2) hs
        rcases Nat.lt_or_ge j k with q | q
        · exact hS1 j q
        · rw [show j = k by omega]; exact c1
      · have z0 : (gT G).2.2 k ≠ 0 := fun q => c1 (e9.mpr q)
        have e : zcnt (fun g => decide ((gT G).2.2 g ≠ 0)) (k + 1) = zcnt (fun g => decide ((gT G).2.2 g ≠ 0)) k + 1 := by simp [zcnt, z0]
        refine zb_go (zg_iinc 1 (by decide) rfl (by decide)) rfl ?_
        refine zb_go (zg_aload_n rfl) rfl ?_
        refine zb_go (zg_getfield fX5_29 (by first | assumption | decide | omega) (by repeat (first | assumption | exact z_up_self _ _ _ | refine (z_up_ne (by first | decide | omega)).trans ?_)) (by rfl)) rfl ?_
        refine zb_go (zg_getfield fX5_111 (by first | assumption | decide | omega) (by repeat (first | assumption | exact z_up_self _ _ _ | refine (z_up_ne (by first | decide | omega)).trans ?_)) (by rfl)) rfl ?_
        refine zb_go (zg_iload_n rfl) rfl ?_
        refine zb_go (zg_bipush (-9) (by decide)) rfl ?_
        refine zb_go (zi_iastore (by first | assumption | decide | omega) (by repeat (first | assumption | exact z_up_self _ _ _ | refine (z_up_ne (by first | decide | omega)).trans ?_)) (by first | assumption | exact zIx.nI (by omega) (by decide) | exact ⟨by decide, by decide⟩)) rfl ?_
        refine zb_out ?_
        refine kX5_forget_37 ?_
        refine zb_go (zg_iinc 1 (by decide) rfl (by decide)) rfl ?_
        refine zb_end (zg_goto (tgt := 4) (by decide) ?_) rfl
        rw [nI_1, nI_1, ← e]
        refine ih hk4 _ (upd S' k (-9)) ⟨(z_up_ne (by decide)).trans g1, z_up_self _ _ _, (z_up_ne (by decide)).trans g3⟩ (fun j hj => ?_) (fun j h1 h2 => by rw [pk_un (by omega)]; exact hS2 j (by omega) h2) (hs.up (by omega) (by omega))
        rcases Nat.lt_or_ge j k with q | q
        · rw [pk_un (by omega)]; exact hS1 j q
        · rw [show j = k by omega, pk_us]
  refine kX5_forget_0 ?_
  refine zb_go (zg_iconst 0 (by decide)) rfl ?_
  refine zb_go (zg_istore_n (by decide)) rfl ?_
  refine zb_go (zg_iconst 0 (by decide)) rfl ?_
  refine zb_go (zg_istore_n (by decide)) rfl ?_
  refine zb_out ?_
  exact lp 0 (by omega) h S hR (fun j hj => absurd hj (Nat.not_lt_zero _)) (fun _ _ _ => rfl) zSame.rf
theorem aSure_lt (T : zT) (k : Nat) : aSure T k < 64 := by
  induction k with
  | zero => exact tOr_lt T
  | succ k ih =>
    simp only [aSure]
    split
    · exact Nat.lt_of_le_of_lt Nat.and_le_left ih
    · exact ih
theorem r_X5_away (hC : cRel h G) (ok : okS G) : zRet K l 5 mX5_away [.ref 0, .int x] 59 h (some (.int (sAway G x))) h := by
  refine zRet.of (by decide) (Nat.le_of_ble_eq_true rfl) (fun Q hQ => ?_)
  obtain ⟨p, q, P', N, kf, hpq, hat, hsc, hp, hq, ⟨S, B, hR, hB, hS⟩, hfi, hkf, hk2, hN, hNo, hi0, hi1⟩ := id hC
  have okp := ok.1
  have okt := ok.2.1
  have hpn : p + 5 < 59 := by omega
  have hat' : h 0 = _ := hat
  have h17 := hR.1
  have kH := okp.1
  have kR := okp.2.1
  have hp1 := hp.1
  unfold sAway at hQ
  have eAll : zor (fun g => rIn B g 6) 4 = tOr (gT G) := zor_congr (fun g hg => rIn_eq okp okt hB hg)
  have eFit : ∀ s, s < 64 → (zdif s (tOr (gT G)) = 0 → ((∀ q, q < 4 → S q = -9 ∨ S q = nI (zpop (zdif (rIn B q 6) s))) ↔ aFit (gT G) s = true)) := by
    intro s hs h0
    unfold aFit
    rw [decide_eq_true h0, Bool.true_and, zall_iff]
    constructor
    · intro hh q hq
      have := (rS_fit okt hS hq (zpop_le _)).mp (hh q hq)
      rw [rIn_eq okp okt hB hq] at this
      rcases this with z | z
      · rw [decide_eq_true z]; rfl
      · rw [decide_eq_true z, Bool.or_true]
    · intro hh q hq
      have := hh q hq
      simp only [Bool.or_eq_true, decide_eq_true_eq] at this
      rw [← rIn_eq okp okt hB hq] at this
      exact (rS_fit okt hS hq (zpop_le _)).mpr this
  refine kX5_away_0 ?_
  refine zb_go (zg_iload_n rfl) rfl ?_
  refine zb_br (zg_if_lt (tgt := 9) (by decide)) rfl (fun c0 => ?_) (fun c0 => ?_)
  · rw [zite_f (fun q => Int32.not_le.mpr c0 q.1)] at hQ
    refine kX5_away_9 ?_
    refine zb_go (zg_iconst (-1) (by decide)) rfl ?_
    refine zb_end (zg_ireturn rfl (by rfl) ?_) rfl
    exact hQ
  · refine zb_go (zg_iload_n rfl) rfl ?_
    refine zb_go (zg_iconst 2 (by decide)) rfl ?_
    refine zb_br (zg_icmp_le (tgt := 11) (by decide)) rfl (fun c1 => ?_) (fun c1 => ?_)
    · have c2 : 0 ≤ x ∧ x ≤ 2 := ⟨Int32.not_lt.mp c0, c1⟩
      rw [zite_t c2] at hQ
      have lp : ∀ k, k ≤ 64 → zGo K l 5 mX5_away 30 [(0, .ref 0), (1, .int x), (2, .int (nI (tOr (gT G)))), (3, .int (nI (aWays (gT G) k))), (4, .int (nI (aSure (gT G) k))), (5, .int (nI (aEver (gT G) k))), (6, .int (nI k))] [] 59 h 0 0 Q := by
        refine z_down 64 (fun k hk ih => ?_)
        refine kX5_away_30 ?_
        refine zb_go (zg_iload rfl) rfl ?_
        refine zb_go (zg_bipush 64 (by decide)) rfl ?_
        refine zb_br (zg_icmp_ge (tgt := 81) (by decide)) rfl (fun c => ?_) (fun c => ?_)
        · have e : k = 64 := by
            have := (nI_leI (a := 64) (b := k) (by decide) (by omega)).mp c
            omega
          subst e
          refine kX5_away_81 ?_
          refine zb_go (zg_iload_n rfl) rfl ?_
          refine zb_br (zg_if_ne (tgt := 87) (by decide)) rfl (fun c3 => ?_) (fun c3 => ?_)
          · rw [if_neg c3] at hQ
            refine kX5_away_87 ?_
            refine zb_go (zg_iload_n rfl) rfl ?_
            refine zb_go (zg_iconst 1 (by decide)) rfl ?_
            refine zb_br (zg_icmp_ne (tgt := 103) (by decide)) rfl (fun c4 => ?_) (fun c4 => ?_)
            · rw [if_neg c4] at hQ
              refine kX5_away_103 ?_
              refine zb_go (zg_iload_n rfl) rfl ?_
              refine zb_go (zg_iload rfl) rfl ?_
              refine zb_go (zg_iconst (-1) (by decide)) rfl ?_
              refine zb_go zg_ixor rfl ?_
              refine zb_go zg_iand rfl ?_
              refine zb_end (zg_ireturn rfl (by rfl) ?_) rfl
              rw [z_andn]
              exact hQ
            · rw [if_pos c4] at hQ
              have hcl : aWays (gT G) 64 ≤ 64 := zcnt_le _ _
              refine zb_go (zg_iload_n rfl) rfl ?_
              refine zb_br (zg_if_ne (tgt := 100) (by decide)) rfl (fun c5 => ?_) (fun c5 => ?_)
              · rw [if_neg (fun q => c5 (by rw [q]; rfl))] at hQ
                refine kX5_away_100 ?_
                refine zb_go (zg_iload rfl) rfl ?_
                refine zb_out ?_
                refine kX5_away_102 ?_
                refine zb_end (zg_ireturn rfl (by rfl) ?_) rfl
                exact hQ
              · rw [if_pos ((nI_eq (b := 0) (by omega) (by omega)).mp c5)] at hQ
                refine zb_go (zg_iconst 0 (by decide)) rfl ?_
                refine zb_end (zg_goto (tgt := 102) (by decide) ?_) rfl
                refine kX5_away_102 ?_
                refine zb_end (zg_ireturn rfl (by rfl) ?_) rfl
                exact hQ
          · rw [if_pos c3] at hQ
            refine zb_go (zg_iload_n rfl) rfl ?_
            refine zb_end (zg_ireturn rfl (by rfl) ?_) rfl
            exact hQ
        · have hk4 : k < 64 := Nat.not_le.mp (fun q => c (nI_le q (by omega)))
          refine zb_go (zg_iload rfl) rfl ?_
          refine zb_go (zg_iload_n rfl) rfl ?_
          refine zb_go (zg_iconst (-1) (by decide)) rfl ?_
          refine zb_go zg_ixor rfl ?_
          refine zb_go zg_iand rfl ?_
          rw [z_andn]
          have skip : aFit (gT G) k = false → zGo K l 5 mX5_away 75 [(0, .ref 0), (1, .int x), (2, .int (nI (tOr (gT G)))), (3, .int (nI (aWays (gT G) k))), (4, .int (nI (aSure (gT G) k))), (5, .int (nI (aEver (gT G) k))), (6, .int (nI k))] [] 59 h 0 0 Q := by
            intro hf
            refine kX5_away_75 ?_
            refine zb_go (zg_iinc 1 (by decide) rfl (by decide)) rfl ?_
            refine zb_end (zg_goto (tgt := 30) (by decide) ?_) rfl
            rw [nI_1]
            have e1 : aWays (gT G) (k + 1) = aWays (gT G) k := by simp [aWays, zcnt, hf]
            have e2 : aSure (gT G) (k + 1) = aSure (gT G) k := by simp [aSure, hf]
            have e3 : aEver (gT G) (k + 1) = aEver (gT G) k := by simp [aEver, hf]
            rw [← e1, ← e2, ← e3]
            exact ih hk4
          refine zb_br (zg_if_ne (tgt := 75) (by decide)) rfl (fun c3 => ?_) (fun c3 => ?_)
          · refine skip ?_
            have h9 : zdif k (tOr (gT G)) ≠ 0 := fun q => c3 (by rw [q]; rfl)
            unfold aFit
            rw [decide_eq_false h9]; rfl
          · have h9 : zdif k (tOr (gT G)) = 0 := (nI_eq (b := 0) (by have := zdif_lt (b := tOr (gT G)) hk4; omega) (by omega)).mp c3
            refine zb_go (zg_aload_n rfl) rfl ?_
            refine zb_go (zg_getfield fX5_29 (by first | assumption | decide | omega) (by repeat (first | assumption | exact z_up_self _ _ _ | refine (z_up_ne (by first | decide | omega)).trans ?_)) (by rfl)) rfl ?_
            refine zb_go (zg_iload rfl) rfl ?_
            refine zb_callvx (r_X3_soundsWithout (s := k) hR (by decide)) lX5_208 (by repeat (first | assumption | exact z_up_self _ _ _ | refine (z_up_ne (by first | decide | omega)).trans ?_)) rfl rfl (by first | assumption | decide | omega) (by decide) rfl (Nat.le_of_ble_eq_true rfl) rfl ?_
            rintro v h' ⟨rfl, hv⟩
            rw [zIf, eFit k hk4 h9] at hv
            rcases hv with ⟨hv, rfl⟩ | ⟨hv, rfl⟩
            · refine zb_br (zg_if_eq (tgt := 75) (by decide)) rfl (fun c4 => ?_) (fun c4 => ?_)
              · exact absurd c4 (by decide)
              · refine zb_go (zg_iinc 1 (by decide) rfl (by decide)) rfl ?_
                refine zb_go (zg_iload rfl) rfl ?_
                refine zb_go (zg_iload rfl) rfl ?_
                refine zb_go zg_iand rfl ?_
                refine zb_go (zg_istore (by decide)) rfl ?_
                refine zb_go (zg_iload rfl) rfl ?_
                refine zb_go (zg_iload rfl) rfl ?_
                refine zb_go zg_ior rfl ?_
                refine zb_go (zg_istore (by decide)) rfl ?_
                refine zb_out ?_
                refine kX5_away_75 ?_
                refine zb_go (zg_iinc 1 (by decide) rfl (by decide)) rfl ?_
                refine zb_end (zg_goto (tgt := 30) (by decide) ?_) rfl
                rw [nI_1, nI_1, z_and, z_or]
                have e1 : aWays (gT G) (k + 1) = aWays (gT G) k + 1 := by simp [aWays, zcnt, hv]
                have e2 : aSure (gT G) (k + 1) = aSure (gT G) k &&& k := by simp [aSure, hv]
                have e3 : aEver (gT G) (k + 1) = aEver (gT G) k ||| k := by simp [aEver, hv]
                rw [← e1, ← e2, ← e3]
                exact ih hk4
            · refine zb_br (zg_if_eq (tgt := 75) (by decide)) rfl (fun c4 => ?_) (fun c4 => ?_)
              · exact skip (by simpa using hv)
              · exact absurd rfl c4
      refine kX5_away_11 ?_
      refine zb_go (zg_aload_n rfl) rfl ?_
      refine zb_go (zg_getfield fX5_29 (by first | assumption | decide | omega) (by repeat (first | assumption | exact z_up_self _ _ _ | refine (z_up_ne (by first | decide | omega)).trans ?_)) (by rfl)) rfl ?_
      refine zb_callv (r_X3_ringersAtAll hR (by decide)) lX5_205 (by repeat (first | assumption | exact z_up_self _ _ _ | refine (z_up_ne (by first | decide | omega)).trans ?_)) rfl rfl (by first | assumption | decide | omega) (by decide) rfl (Nat.le_of_ble_eq_true rfl) rfl ?_
      rw [eAll]
      refine zb_go (zg_istore_n (by decide)) rfl ?_
      refine zb_go (zg_iconst 0 (by decide)) rfl ?_
      refine zb_go (zg_istore_n (by decide)) rfl ?_
      refine zb_go (zg_iload_n rfl) rfl ?_
      refine zb_go (zg_istore (by decide)) rfl ?_
      refine zb_go (zg_iconst 0 (by decide)) rfl ?_
      refine zb_go (zg_istore (by decide)) rfl ?_
      refine zb_go (zg_iconst 0 (by decide)) rfl ?_
      refine zb_go (zg_istore (by decide)) rfl ?_
      refine zb_out ?_
      exact lp 0 (Nat.zero_le _)
    · refine zb_out ?_
      refine kX5_away_9 ?_
      refine zb_go (zg_iconst (-1) (by decide)) rfl ?_
      refine zb_end (zg_ireturn rfl (by rfl) ?_) rfl
      rw [zite_f (fun q => c1 q.2)] at hQ
      exact hQ
end
