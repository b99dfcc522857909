/-! THE CLASS (3): hour, rings, put, take, now, crew, bars, odds, stands -/
def zfst (p : Nat → Bool) : Nat → Option Nat
  | 0 => none
  | k + 1 => match zfst p k with
    | some i => some i
    | none => if p k then some k else none
theorem zfst_none {p : Nat → Bool} {n : Nat} (h : ∀ i, i < n → p i = false) : zfst p n = none := by
  induction n with
  | zero => rfl
  | succ n ih => simp only [zfst, ih (fun i hi => h i (by omega)), h n (by omega)]; rfl
theorem zfst_some {p : Nat → Bool} {n r : Nat} (hr : r < n) (h : p r = true) (hn : ∀ i, i < r → p i = false) : zfst p n = some r := by
  induction n with
  | zero => omega
  | succ n ih =>
    by_cases q : r = n
    · subst q
      simp only [zfst, zfst_none hn, h]; rfl
    · simp only [zfst, ih (by omega)]
def oI (o : Option Nat) : Int32 := match o with
  | some k => nI k
  | none => -9
def iR (G : zS) (x : Int32) : Prop := 0 ≤ x ∧ x < nI (pR (gP G))
def iH (G : zS) (x : Int32) : Prop := 0 ≤ x ∧ x < nI (pH (gP G))
def iB (G : zS) (y z : Int32) : Prop := (0 ≤ y ∧ y < nI (pH (gP G))) ∧ 0 ≤ z ∧ z < nI (pW (gP G) y.toNatClampNeg)
noncomputable def sRings (G : zS) (y z : Int32) : Int32 := zite (iB G y z) (oI (zfst (fun r => decide ((gT G).1 r y.toNatClampNeg = z.toNatClampNeg + 1)) 6)) (-1)
noncomputable def sPut (G : zS) (x y z : Int32) : Int32 × zS := zite (iR G x ∧ iB G y z) (zite (canPut (gP G) (gT G) x.toNatClampNeg y.toNatClampNeg z.toNatClampNeg) (nI (tAll (gT G) + 1), wT G (tSet (gT G) x.toNatClampNeg y.toNatClampNeg (z.toNatClampNeg + 1))) (-2, G)) (-1, G)
noncomputable def sTake (G : zS) (x y : Int32) : Int32 × zS := zite (iR G x ∧ iH G y) (zite ((gT G).1 x.toNatClampNeg y.toNatClampNeg = 0) (-2, G) (nI ((gT G).1 x.toNatClampNeg y.toNatClampNeg - 1), wT G (tSet (gT G) x.toNatClampNeg y.toNatClampNeg 0))) (-1, G)
theorem iB_of {G : zS} {y z : Int32} (ok : okP (gP G)) (h : iB G y z) : ∃ g b, g < pH (gP G) ∧ b < pW (gP G) g ∧ y = nI g ∧ z = nI b ∧ g < 4 ∧ b < 3 := by
  have k1 := ok.1
  obtain ⟨g, hg, rfl⟩ := z_isIx (by omega) h.1
  have hw := ok.2.2.2.2.2.1 g hg
  have h2 := h.2
  rw [nI_clamp (by omega)] at h2
  obtain ⟨b, hb, rfl⟩ := z_isIx (by omega) h2
  exact ⟨g, b, hg, hb, rfl, rfl, by omega, by omega⟩
theorem rB_bell {P : zP} {B : Nat → Int32} {T : zT} (okp : okP P) (ok : okT P T) (h : rB B T) {r g b : Nat} (hr : r < 6) (hg : g < 4) (hb : b < 3) : B (4 * r + g) = nI b ↔ T.1 r g = b + 1 := by
  rw [h r g hr hg]
  have := ok.le okp hr hg
  by_cases q : T.1 r g = 0
  · rw [if_pos q, q]
    exact ⟨fun z => absurd z.symm (nI_ne9 (by omega)), fun z => by omega⟩
  · rw [if_neg q]
    exact ⟨fun z => by have := (nI_eq (by omega) (by omega)).mp z; omega, fun z => by rw [z]; rfl⟩
section
variable {K : zK} {l : Launch} {n p q r g : Nat} {h : zH} {x y z : Int32} {G : zS}
theorem r_X5_hour (hC : cRel h G) (ok : okS G) : zRet K l 4 mX5_hour [.ref 0, .int x, .int y] 59 h (some (.int (sHour G x y))) h := by
  refine zRet.of (by decide) (Nat.le_of_ble_eq_true rfl) (fun Q hQ => ?_)
  obtain ⟨p, q, P', N, kf, hpq, hat, hsc, hp, hq, ⟨S, B, hR, hB, hS⟩, hfi, hkf, hk2, hN, hNo, hi0, hi1⟩ := id hC
  have okp := ok.1
  have okt := ok.2.1
  have hpn : p + 5 < 59 := by omega
  have hat' : h 0 = _ := hat
  have h17 := hR.1
  have kH := okp.1
  have kR := okp.2.1
  have hp1 := hp.1
  unfold sHour at hQ
  obtain ⟨p1, ⟨f1, p2, e2⟩, -⟩ := id hp
  have h18 := hR.2.1
  refine kX5_hour_0 ?_
  refine zb_go (zg_aload_n rfl) rfl ?_
  refine zb_go (zg_getfield fX5_19 (by first | assumption | decide | omega) (by repeat (first | assumption | exact z_up_self _ _ _ | refine (z_up_ne (by first | decide | omega)).trans ?_)) (by rfl)) rfl ?_
  refine zb_go (zg_iload_n rfl) rfl ?_
  refine zb_callv (r_X2_hasHour hp hpn) lX5_97 (by repeat (first | assumption | exact z_up_self _ _ _ | refine (z_up_ne (by first | decide | omega)).trans ?_)) rfl rfl (by first | assumption | decide | omega) (by decide) rfl (Nat.le_of_ble_eq_true rfl) rfl ?_
  refine zb_br (zg_if_ne (tgt := 13) (by decide)) rfl (fun c => ?_) (fun c => ?_)
  · have c := zb_n.mp c
    rw [if_pos c] at hQ
    obtain ⟨g, hg, rfl⟩ := z_isIx (by omega) c
    rw [nI_clamp (by omega)] at hQ
    refine kX5_hour_13 ?_
    refine zb_go (zg_iload_n rfl) rfl ?_
    rcases z_swi y 2 (by decide) with ⟨k, hk, rfl⟩ | ho
    · rcases (show k = 0 ∨ k = 1 ∨ k = 2 by omega) with rfl | rfl | rfl
      · rw [if_pos (by decide)] at hQ
        refine zb_end (len := 26) (zg_tableIn 26 40 (by decide) (by decide) (by rfl) (by decide) ?_) rfl
        refine kX5_hour_40 ?_
        refine zb_go (zg_aload_n rfl) rfl ?_
        refine zb_go (zg_getfield fX5_19 (by first | assumption | decide | omega) (by repeat (first | assumption | exact z_up_self _ _ _ | refine (z_up_ne (by first | decide | omega)).trans ?_)) (by rfl)) rfl ?_
        refine zb_go (zg_getfield fX5_100 (by first | assumption | decide | omega) (by repeat (first | assumption | exact z_up_self _ _ _ | refine (z_up_ne (by first | decide | omega)).trans ?_)) (by rfl)) rfl ?_
        refine zb_go (zg_iload_n rfl) rfl ?_
        refine zb_go (zi_iaload (by first | assumption | decide | omega) (by repeat (first | assumption | exact z_up_self _ _ _ | refine (z_up_ne (by first | decide | omega)).trans ?_)) (by first | assumption | exact zIx.nI (by omega) (by decide) | exact ⟨by decide, by decide⟩)) rfl ?_
        refine zb_end (zg_ireturn rfl (by rfl) ?_) rfl
        rw [e2 g hg]; exact hQ
      · rw [if_neg (by decide), if_pos (by decide)] at hQ
        rw [← rIn_eq okp okt hB (by omega), ← e2 g hg] at hQ
        refine zb_end (len := 26) (zg_tableIn 36 50 (by decide) (by decide) (by rfl) (by decide) ?_) rfl
        refine kX5_hour_50 ?_
        refine zb_go (zg_aload_n rfl) rfl ?_
        refine zb_go (zg_getfield fX5_19 (by first | assumption | decide | omega) (by repeat (first | assumption | exact z_up_self _ _ _ | refine (z_up_ne (by first | decide | omega)).trans ?_)) (by rfl)) rfl ?_
        refine zb_go (zg_getfield fX5_100 (by first | assumption | decide | omega) (by repeat (first | assumption | exact z_up_self _ _ _ | refine (z_up_ne (by first | decide | omega)).trans ?_)) (by rfl)) rfl ?_
        refine zb_go (zg_iload_n rfl) rfl ?_
        refine zb_go (zi_iaload (by first | assumption | decide | omega) (by repeat (first | assumption | exact z_up_self _ _ _ | refine (z_up_ne (by first | decide | omega)).trans ?_)) (by first | assumption | exact zIx.nI (by omega) (by decide) | exact ⟨by decide, by decide⟩)) rfl ?_
        refine zb_go (zg_aload_n rfl) rfl ?_
        refine zb_go (zg_getfield fX5_29 (by first | assumption | decide | omega) (by repeat (first | assumption | exact z_up_self _ _ _ | refine (z_up_ne (by first | decide | omega)).trans ?_)) (by rfl)) rfl ?_
        refine zb_go (zg_iload_n rfl) rfl ?_
        refine zb_callv (r_X3_ringersIn hR (by decide) (by omega)) lX5_103 (by repeat (first | assumption | exact z_up_self _ _ _ | refine (z_up_ne (by first | decide | omega)).trans ?_)) rfl rfl (by first | assumption | decide | omega) (by decide) rfl (Nat.le_of_ble_eq_true rfl) rfl ?_
        refine zb_calls (r_bitCount (rIn_lt B g)) lX5_106 rfl (by decide) rfl (Nat.le_of_ble_eq_true rfl) rfl ?_
        refine zb_go zg_isub rfl ?_
        refine zb_end (zg_ireturn rfl (by rfl) ?_) rfl
        exact hQ
      · rw [if_neg (by decide), if_neg (by decide), if_pos (by decide)] at hQ
        refine zb_end (len := 26) (zg_tableIn 58 72 (by decide) (by decide) (by rfl) (by decide) ?_) rfl
        refine kX5_hour_72 ?_
        refine zb_go (zg_aload_n rfl) rfl ?_
        refine zb_go (zg_getfield fX5_29 (by first | assumption | decide | omega) (by repeat (first | assumption | exact z_up_self _ _ _ | refine (z_up_ne (by first | decide | omega)).trans ?_)) (by rfl)) rfl ?_
        refine zb_go (zg_getfield fX5_111 (by first | assumption | decide | omega) (by repeat (first | assumption | exact z_up_self _ _ _ | refine (z_up_ne (by first | decide | omega)).trans ?_)) (by rfl)) rfl ?_
        refine zb_go (zg_iload_n rfl) rfl ?_
        refine zb_go (zi_iaload (by first | assumption | decide | omega) (by repeat (first | assumption | exact z_up_self _ _ _ | refine (z_up_ne (by first | decide | omega)).trans ?_)) (by first | assumption | exact zIx.nI (by omega) (by decide) | exact ⟨by decide, by decide⟩)) rfl ?_
        refine zb_end (zg_ireturn rfl (by rfl) ?_) rfl
        rw [hS g (by omega)]; exact hQ
    · rw [if_neg (show ¬ y = 0 from z_out (k := 0) ho (by decide) (by decide)), if_neg (show ¬ y = 1 from z_out (k := 1) ho (by decide) (by decide)), if_neg (show ¬ y = 2 from z_out (k := 2) ho (by decide) (by decide))] at hQ
      refine zb_end (len := 26) (zg_tableOut 82 ho (by decide) ?_) rfl
      refine kX5_hour_82 ?_
      refine zb_go (zg_iconst (-1) (by decide)) rfl ?_
      refine zb_end (zg_ireturn rfl (by rfl) ?_) rfl
      exact hQ
  · rw [if_neg (zb_0.mp c)] at hQ
    refine zb_go (zg_iconst (-1) (by decide)) rfl ?_
    refine zb_end (zg_ireturn rfl (by rfl) ?_) rfl
    exact hQ
theorem r_X5_rings (hC : cRel h G) (ok : okS G) : zRet K l 3 mX5_rings [.ref 0, .int y, .int z] 59 h (some (.int (sRings G y z))) h := by
  refine zRet.of (by decide) (Nat.le_of_ble_eq_true rfl) (fun Q hQ => ?_)
  obtain ⟨p, q, P', N, kf, hpq, hat, hsc, hp, hq, ⟨S, B, hR, hB, hS⟩, hfi, hkf, hk2, hN, hNo, hi0, hi1⟩ := id hC
  have okp := ok.1
  have okt := ok.2.1
  have hpn : p + 5 < 59 := by omega
  have hat' : h 0 = _ := hat
  have h17 := hR.1
  have kH := okp.1
  have kR := okp.2.1
  have hp1 := hp.1
  unfold sRings at hQ
  refine kX5_rings_0 ?_
  refine zb_go (zg_aload_n rfl) rfl ?_
  refine zb_go (zg_getfield fX5_19 (by first | assumption | decide | omega) (by repeat (first | assumption | exact z_up_self _ _ _ | refine (z_up_ne (by first | decide | omega)).trans ?_)) (by rfl)) rfl ?_
  refine zb_go (zg_iload_n rfl) rfl ?_
  refine zb_go (zg_iload_n rfl) rfl ?_
  refine zb_callv (r_X2_hasBell hp hpn okp) lX5_114 (by repeat (first | assumption | exact z_up_self _ _ _ | refine (z_up_ne (by first | decide | omega)).trans ?_)) rfl rfl (by first | assumption | decide | omega) (by decide) rfl (Nat.le_of_ble_eq_true rfl) rfl ?_
  refine zb_br (zg_if_ne (tgt := 14) (by decide)) rfl (fun c => ?_) (fun c => ?_)
  · have c' := zb_n.mp c
    have c : iB G y z := c'
    rw [zite_t c] at hQ
    obtain ⟨g, b, hg, hb, rfl, rfl, hg4, hb3⟩ := iB_of okp c
    rw [nI_clamp (by omega), nI_clamp (by omega)] at hQ
    refine kX5_rings_14 ?_
    refine zb_go (zg_aload_n rfl) rfl ?_
    refine zb_go (zg_getfield fX5_29 (by first | assumption | decide | omega) (by repeat (first | assumption | exact z_up_self _ _ _ | refine (z_up_ne (by first | decide | omega)).trans ?_)) (by rfl)) rfl ?_
    refine zb_go (zg_iload_n rfl) rfl ?_
    refine zb_go (zg_iload_n rfl) rfl ?_
    refine zb_callvx (r_X3_ringerAt hR (by decide) hg4) lX5_133 (by repeat (first | assumption | exact z_up_self _ _ _ | refine (z_up_ne (by first | decide | omega)).trans ?_)) rfl rfl (by first | assumption | decide | omega) (by decide) rfl (Nat.le_of_ble_eq_true rfl) rfl ?_
    rintro v h' ⟨rfl, hv⟩
    rcases hv with ⟨r, hr, h1, h2, rfl⟩ | ⟨h2, rfl⟩
    · rw [zfst_some hr (decide_eq_true ((rB_bell okp okt hB hr hg4 hb3).mp h1)) (fun i hi => decide_eq_false (fun q => h2 i hi ((rB_bell okp okt hB (by omega) hg4 hb3).mpr q)))] at hQ
      refine zb_end (zg_ireturn rfl (by rfl) ?_) rfl
      exact hQ
    · rw [zfst_none (fun i hi => decide_eq_false (fun q => h2 i hi ((rB_bell okp okt hB hi hg4 hb3).mpr q)))] at hQ
      refine zb_end (zg_ireturn rfl (by rfl) ?_) rfl
      exact hQ
  · have c' := zb_0.mp c
    rw [zite_f (show ¬ iB G y z from c')] at hQ
    refine zb_go (zg_iconst (-1) (by decide)) rfl ?_
    refine zb_end (zg_ireturn rfl (by rfl) ?_) rfl
    exact hQ
theorem canPut_iff {P : zP} {B : Nat → Int32} {T : zT} {b : Nat} (okp : okP P) (ok : okT P T) (hB : rB B T) (hr : r < 6) (hg : g < 4) (hb : b < 3) : rHasRoom P B r g b ↔ (∀ q, q < 6 → T.1 q g ≠ b + 1) ∧ tN T r < pTi P ∧ ∀ q, q < 4 → T.1 r q ≠ 0 → pRe P < zdist g q := by
  unfold rHasRoom
  rw [rT_eq okp ok hB hr]
  constructor
  · intro ⟨h1, h2, h3⟩
    exact ⟨fun q hq z => h1 q hq ((rB_bell okp ok hB hq hg hb).mpr z), h2, fun q hq z => h3 q hq ((rB_ne okp ok hB hr hq).mpr z)⟩
  · intro ⟨h1, h2, h3⟩
    exact ⟨fun q hq z => h1 q hq ((rB_bell okp ok hB hq hg hb).mp z), h2, fun q hq z => h3 q hq ((rB_ne okp ok hB hr hq).mp z)⟩
theorem r_X5_put (hC : cRel h G) (ok : okS G) : zRex K l 5 mX5_put [.ref 0, .int x, .int y, .int z] 59 h (fun v h' => v = some (.int (sPut G x y z).1) ∧ cRel h' (sPut G x y z).2 ∧ okS (sPut G x y z).2 ∧ zSame 0 33 h h') := by
  refine zRex.of (by decide) (Nat.le_of_ble_eq_true rfl) (fun Q hQ => ?_)
  obtain ⟨p, q, P', N, kf, hpq, hat, hsc, hp, hq, ⟨S, B, hR, hB, hS⟩, hfi, hkf, hk2, hN, hNo, hi0, hi1⟩ := id hC
  have okp := ok.1
  have okt := ok.2.1
  have hpn : p + 5 < 59 := by omega
  have hat' : h 0 = _ := hat
  have h17 := hR.1
  have kH := okp.1
  have kR := okp.2.1
  have hp1 := hp.1
  have bad : ¬ (iR G x ∧ iB G y z) → zGo K l 5 mX5_put 23 (lv_args 0 [.ref 0, .int x, .int y, .int z]) [] 59 h 0 0 Q := by
    intro hn
    refine kX5_put_23 ?_
    refine zb_go (zg_iconst (-1) (by decide)) rfl ?_
    refine zb_end (zg_ireturn rfl (by rfl) ?_) rfl
    rw [sPut, zite_f hn] at hQ
    exact hQ _ _ ⟨rfl, hC, ok, zSame.rf⟩
  refine kX5_put_0 ?_
  refine zb_go (zg_aload_n rfl) rfl ?_
  refine zb_go (zg_getfield fX5_19 (by first | assumption | decide | omega) (by repeat (first | assumption | exact z_up_self _ _ _ | refine (z_up_ne (by first | decide | omega)).trans ?_)) (by rfl)) rfl ?_
  refine zb_go (zg_iload_n rfl) rfl ?_
  refine zb_callv (r_X2_hasRinger hp hpn) lX5_76 (by repeat (first | assumption | exact z_up_self _ _ _ | refine (z_up_ne (by first | decide | omega)).trans ?_)) rfl rfl (by first | assumption | decide | omega) (by decide) rfl (Nat.le_of_ble_eq_true rfl) rfl ?_
  refine zb_br (zg_if_eq (tgt := 23) (by decide)) rfl (fun c0 => ?_) (fun c0 => ?_)
  · exact bad (fun q => zb_0.mp c0 q.1)
  · have c0 := zb_n.mp c0
    refine zb_go (zg_aload_n rfl) rfl ?_
    refine zb_go (zg_getfield fX5_19 (by first | assumption | decide | omega) (by repeat (first | assumption | exact z_up_self _ _ _ | refine (z_up_ne (by first | decide | omega)).trans ?_)) (by rfl)) rfl ?_
    refine zb_go (zg_iload_n rfl) rfl ?_
    refine zb_go (zg_iload_n rfl) rfl ?_
    refine zb_callv (r_X2_hasBell hp hpn okp) lX5_114 (by repeat (first | assumption | exact z_up_self _ _ _ | refine (z_up_ne (by first | decide | omega)).trans ?_)) rfl rfl (by first | assumption | decide | omega) (by decide) rfl (Nat.le_of_ble_eq_true rfl) rfl ?_
    refine zb_br (zg_if_ne (tgt := 25) (by decide)) rfl (fun c1 => ?_) (fun c1 => ?_)
    · have c1 := zb_n.mp c1
      rw [sPut, zite_t ⟨c0, c1⟩] at hQ
      obtain ⟨r, hr, rfl⟩ := z_isIx (by omega) c0
      obtain ⟨g, b, hg, hb, rfl, rfl, hg4, hb3⟩ := iB_of okp c1
      rw [nI_clamp (by omega), nI_clamp (by omega), nI_clamp (by omega)] at hQ
      have no : ¬ canPut (gP G) (gT G) r g b → zGo K l 5 mX5_put 55 (lv_args 0 [.ref 0, .int (nI r), .int (nI g), .int (nI b)]) [] 59 h 0 0 Q := by
        intro hn
        refine kX5_put_55 ?_
        refine zb_go (zg_bipush (-2) (by decide)) rfl ?_
        refine zb_end (zg_ireturn rfl (by rfl) ?_) rfl
        rw [zite_f hn] at hQ
        exact hQ _ _ ⟨rfl, hC, ok, zSame.rf⟩
      refine kX5_put_25 ?_
      refine zb_go (zg_aload_n rfl) rfl ?_
      refine zb_go (zg_getfield fX5_19 (by first | assumption | decide | omega) (by repeat (first | assumption | exact z_up_self _ _ _ | refine (z_up_ne (by first | decide | omega)).trans ?_)) (by rfl)) rfl ?_
      refine zb_go (zg_iload_n rfl) rfl ?_
      refine zb_go (zg_iload_n rfl) rfl ?_
      refine zb_go (zg_iload_n rfl) rfl ?_
      refine zb_callv (r_X2_canRing hp hpn okp (by omega) (by omega) (by omega)) lX5_118 (by repeat (first | assumption | exact z_up_self _ _ _ | refine (z_up_ne (by first | decide | omega)).trans ?_)) rfl rfl (by first | assumption | decide | omega) (by decide) rfl (Nat.le_of_ble_eq_true rfl) rfl ?_
      refine zb_br (zg_if_eq (tgt := 55) (by decide)) rfl (fun c2 => ?_) (fun c2 => ?_)
      · exact no (fun q => zb_0.mp c2 ⟨⟨hg, hb⟩, q.1⟩)
      · have c2 := (zb_n.mp c2).2
        refine zb_go (zg_aload_n rfl) rfl ?_
        refine zb_go (zg_getfield fX5_29 (by first | assumption | decide | omega) (by repeat (first | assumption | exact z_up_self _ _ _ | refine (z_up_ne (by first | decide | omega)).trans ?_)) (by rfl)) rfl ?_
        refine zb_go (zg_aload_n rfl) rfl ?_
        refine zb_go (zg_getfield fX5_19 (by first | assumption | decide | omega) (by repeat (first | assumption | exact z_up_self _ _ _ | refine (z_up_ne (by first | decide | omega)).trans ?_)) (by rfl)) rfl ?_
        refine zb_go (zg_iload_n rfl) rfl ?_
        refine zb_go (zg_iload_n rfl) rfl ?_
        refine zb_go (zg_iload_n rfl) rfl ?_
        refine zb_callvx (r_X3_hasRoom (b := b) hR (by decide) hp hpn okp (by omega) hg4) lX5_122 (by repeat (first | assumption | exact z_up_self _ _ _ | refine (z_up_ne (by first | decide | omega)).trans ?_)) rfl rfl (by first | assumption | decide | omega) (by decide) rfl (Nat.le_of_ble_eq_true rfl) rfl ?_
        rintro v h' ⟨rfl, hv⟩
        rw [zIf, canPut_iff okp okt hB (by omega) hg4 hb3] at hv
        rcases hv with ⟨hv, rfl⟩ | ⟨hv, rfl⟩
        · refine zb_br (zg_if_ne (tgt := 58) (by decide)) rfl (fun c3 => ?_) (fun c3 => ?_)
          · have hcan : canPut (gP G) (gT G) r g b := ⟨c2, hv⟩
            rw [zite_t hcan] at hQ
            have h0 : (gT G).1 r g = 0 := by
              rcases Nat.eq_zero_or_pos ((gT G).1 r g) with q | q
              · exact q
              · have := hv.2.2 g hg4 (by omega)
                unfold zdist at this
                rw [if_pos (Nat.le_refl _)] at this
                omega
            have hb9 : B (4 * r + g) = -9 := by rw [hB r g (by omega) hg4, if_pos h0]
            refine kX5_put_58 ?_
            refine zb_go (zg_aload_n rfl) rfl ?_
            refine zb_go (zg_getfield fX5_29 (by first | assumption | decide | omega) (by repeat (first | assumption | exact z_up_self _ _ _ | refine (z_up_ne (by first | decide | omega)).trans ?_)) (by rfl)) rfl ?_
            refine zb_go (zg_iload_n rfl) rfl ?_
            refine zb_go (zg_iload_n rfl) rfl ?_
            refine zb_go (zg_iload_n rfl) rfl ?_
            refine zb_callvx (r_X3_give hR (by decide) (by omega) hg4 hb9) lX5_126 (by repeat (first | assumption | exact z_up_self _ _ _ | refine (z_up_ne (by first | decide | omega)).trans ?_)) rfl rfl (by first | assumption | decide | omega) (by decide) rfl (Nat.le_of_ble_eq_true rfl) rfl ?_
            rintro v h1 ⟨rfl, hR1, hs⟩
            have g17 := hR1.1
            have gat : h1 0 = _ := (hs 0 (by omega)).trans hat'
            refine zb_go (zg_aload_n rfl) rfl ?_
            refine zb_go (zg_getfield fX5_29 (by first | assumption | decide | omega) (by repeat (first | assumption | exact z_up_self _ _ _ | refine (z_up_ne (by first | decide | omega)).trans ?_)) (by rfl)) rfl ?_
            refine zb_go (zg_getfield fX5_130 (by first | assumption | decide | omega) (by repeat (first | assumption | exact z_up_self _ _ _ | refine (z_up_ne (by first | decide | omega)).trans ?_)) (by rfl)) rfl ?_
            refine zb_end (zg_ireturn rfl (by rfl) ?_) rfl
            rw [nI_1]
            refine hQ _ _ ⟨rfl, ?_, ok.wT (okt.put hr hg hb (by omega) hg4 hcan), hs.wide (by omega) (by omega)⟩
            exact hC.rota hs ⟨S, _, by rw [tAll_put (by omega) hg4 h0 (by omega), ← nI_1]; exact hR1, rB_set hB (by omega) hg4 (by rw [if_neg (by omega), Nat.add_sub_cancel]), hS⟩ rfl
          · exact absurd c3 (by decide)
        · refine zb_br (zg_if_ne (tgt := 58) (by decide)) rfl (fun c3 => ?_) (fun c3 => ?_)
          · exact absurd rfl c3
          · refine zb_out ?_
            refine kX5_put_55 ?_
            refine zb_go (zg_bipush (-2) (by decide)) rfl ?_
            refine zb_end (zg_ireturn rfl (by rfl) ?_) rfl
            rw [zite_f (fun q => hv q.2)] at hQ
            exact hQ _ _ ⟨rfl, hC, ok, zSame.rf⟩
    · refine zb_out ?_
      refine kX5_put_23 ?_
      refine zb_go (zg_iconst (-1) (by decide)) rfl ?_
      refine zb_end (zg_ireturn rfl (by rfl) ?_) rfl
      rw [sPut, zite_f (fun q => zb_0.mp c1 q.2)] at hQ
      exact hQ _ _ ⟨rfl, hC, ok, zSame.rf⟩
theorem r_X5_take (hC : cRel h G) (ok : okS G) : zRex K l 4 mX5_take [.ref 0, .int x, .int y] 59 h (fun v h' => v = some (.int (sTake G x y).1) ∧ cRel h' (sTake G x y).2 ∧ okS (sTake G x y).2 ∧ zSame 0 33 h h') := by
  refine zRex.of (by decide) (Nat.le_of_ble_eq_true rfl) (fun Q hQ => ?_)
  obtain ⟨p, q, P', N, kf, hpq, hat, hsc, hp, hq, ⟨S, B, hR, hB, hS⟩, hfi, hkf, hk2, hN, hNo, hi0, hi1⟩ := id hC
  have okp := ok.1
  have okt := ok.2.1
  have hpn : p + 5 < 59 := by omega
  have hat' : h 0 = _ := hat
  have h17 := hR.1
  have kH := okp.1
  have kR := okp.2.1
  have hp1 := hp.1
  refine kX5_take_0 ?_
  refine zb_go (zg_aload_n rfl) rfl ?_
  refine zb_go (zg_getfield fX5_19 (by first | assumption | decide | omega) (by repeat (first | assumption | exact z_up_self _ _ _ | refine (z_up_ne (by first | decide | omega)).trans ?_)) (by rfl)) rfl ?_
  refine zb_go (zg_iload_n rfl) rfl ?_
  refine zb_callv (r_X2_hasRinger hp hpn) lX5_76 (by repeat (first | assumption | exact z_up_self _ _ _ | refine (z_up_ne (by first | decide | omega)).trans ?_)) rfl rfl (by first | assumption | decide | omega) (by decide) rfl (Nat.le_of_ble_eq_true rfl) rfl ?_
  refine zb_br (zg_if_eq (tgt := 22) (by decide)) rfl (fun c0 => ?_) (fun c0 => ?_)
  · refine kX5_take_22 ?_
    refine zb_go (zg_iconst (-1) (by decide)) rfl ?_
    refine zb_end (zg_ireturn rfl (by rfl) ?_) rfl
    rw [sTake, zite_f (fun q => zb_0.mp c0 q.1)] at hQ
    exact hQ _ _ ⟨rfl, hC, ok, zSame.rf⟩
  · have c0 := zb_n.mp c0
    refine zb_go (zg_aload_n rfl) rfl ?_
    refine zb_go (zg_getfield fX5_19 (by first | assumption | decide | omega) (by repeat (first | assumption | exact z_up_self _ _ _ | refine (z_up_ne (by first | decide | omega)).trans ?_)) (by rfl)) rfl ?_
    refine zb_go (zg_iload_n rfl) rfl ?_
    refine zb_callv (r_X2_hasHour hp hpn) lX5_97 (by repeat (first | assumption | exact z_up_self _ _ _ | refine (z_up_ne (by first | decide | omega)).trans ?_)) rfl rfl (by first | assumption | decide | omega) (by decide) rfl (Nat.le_of_ble_eq_true rfl) rfl ?_
    refine zb_br (zg_if_ne (tgt := 24) (by decide)) rfl (fun c1 => ?_) (fun c1 => ?_)
    · have c1 := zb_n.mp c1
      rw [sTake, zite_t ⟨c0, c1⟩] at hQ
      obtain ⟨r, hr, rfl⟩ := z_isIx (by omega) c0
      obtain ⟨g, hg, rfl⟩ := z_isIx (by omega) c1
      rw [nI_clamp (by omega), nI_clamp (by omega)] at hQ
      refine kX5_take_24 ?_
      refine zb_go (zg_aload_n rfl) rfl ?_
      refine zb_go (zg_getfield fX5_29 (by first | assumption | decide | omega) (by repeat (first | assumption | exact z_up_self _ _ _ | refine (z_up_ne (by first | decide | omega)).trans ?_)) (by rfl)) rfl ?_
      refine zb_go (zg_iload_n rfl) rfl ?_
      refine zb_go (zg_iload_n rfl) rfl ?_
      refine zb_callv (r_X3_bellOf hR (by decide) (by omega) (by omega)) lX5_137 (by repeat (first | assumption | exact z_up_self _ _ _ | refine (z_up_ne (by first | decide | omega)).trans ?_)) rfl rfl (by first | assumption | decide | omega) (by decide) rfl (Nat.le_of_ble_eq_true rfl) rfl ?_
      refine zb_go (zg_istore_n (by decide)) rfl ?_
      refine zb_go (zg_iload_n rfl) rfl ?_
      refine zb_go (zg_bipush (-9) (by decide)) rfl ?_
      refine zb_br (zg_icmp_ne (tgt := 43) (by decide)) rfl (fun c2 => ?_) (fun c2 => ?_)
      · have hne := (rB_ne okp okt hB (r := r) (g := g) (by omega) (by omega)).mp c2
        rw [zite_f hne] at hQ
        have eB : B (4 * r + g) = nI ((gT G).1 r g - 1) := by rw [hB r g (by omega) (by omega), if_neg hne]
        refine kX5_take_43 ?_
        refine zb_go (zg_aload_n rfl) rfl ?_
        refine zb_go (zg_getfield fX5_29 (by first | assumption | decide | omega) (by repeat (first | assumption | exact z_up_self _ _ _ | refine (z_up_ne (by first | decide | omega)).trans ?_)) (by rfl)) rfl ?_
        refine zb_go (zg_iload_n rfl) rfl ?_
        refine zb_go (zg_iload_n rfl) rfl ?_
        refine zb_callvx (r_X3_free hR (by decide) (by omega) (by omega) c2) lX5_140 (by repeat (first | assumption | exact z_up_self _ _ _ | refine (z_up_ne (by first | decide | omega)).trans ?_)) rfl rfl (by first | assumption | decide | omega) (by decide) rfl (Nat.le_of_ble_eq_true rfl) rfl ?_
        rintro v h1 ⟨rfl, hR1, hs⟩
        refine zb_go (zg_iload_n rfl) rfl ?_
        refine zb_end (zg_ireturn rfl (by rfl) ?_) rfl
        refine hQ _ _ ⟨by rw [eB], ?_, ok.wT (okt.take (by omega)), hs.wide (by omega) (by omega)⟩
        refine hC.rota hs ⟨S, _, ?_, rB_set hB (by omega) (by omega) rfl, hS⟩ rfl
        have e := tAll_take (T := gT G) (r := r) (g := g) (by omega) (by omega) hne
        rw [e, nI_pred] at hR1
        exact hR1
      · have h0 : (gT G).1 r g = 0 := by
          rcases Nat.eq_zero_or_pos ((gT G).1 r g) with q | q
          · exact q
          · exact absurd c2 ((rB_ne okp okt hB (by omega) (by omega)).mpr (by omega))
        rw [zite_t h0] at hQ
        refine zb_go (zg_bipush (-2) (by decide)) rfl ?_
        refine zb_end (zg_ireturn rfl (by rfl) ?_) rfl
        exact hQ _ _ ⟨rfl, hC, ok, zSame.rf⟩
    · refine zb_out ?_
      refine kX5_take_22 ?_
      refine zb_go (zg_iconst (-1) (by decide)) rfl ?_
      refine zb_end (zg_ireturn rfl (by rfl) ?_) rfl
      rw [sTake, zite_f (fun q => zb_0.mp c1 q.2)] at hQ
      exact hQ _ _ ⟨rfl, hC, ok, zSame.rf⟩
end
