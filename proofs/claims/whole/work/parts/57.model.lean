/-! THE MODEL (9): crew, bars, odds -/
theorem mRel.work {h h1 : zH} {G : zS} {X : zX} (hM : mRel h G) (s : ∀ k, k ≠ 34 → (k < 48 ∨ 58 < k) → h1 k = h k) (h34 : h1 34 = mObj (gTr G) (nI (gLen G)) X) (hR : mRoom h1) : mRel h1 G := by
  obtain ⟨X0, f0, kf, -, ⟨tx, hx, ht⟩, hP, h46, hN, h47, hkf, hI, -⟩ := hM
  refine ⟨X, f0, kf, h34, ⟨tx, (s 35 (by omega) (by omega)).trans hx, ht⟩, ?_, (s 46 (by omega) (by omega)).trans h46, hN, (s 47 (by omega) (by omega)).trans h47, hkf, hI, hR⟩
  obtain ⟨⟨f1, a1, b1⟩, ⟨f2, a2, b2⟩, ⟨f3, a3, b3⟩, ⟨f4, a4, b4⟩, ⟨f5, a5, b5⟩, ⟨f6, a6, b6⟩, ⟨f7, a7, b7⟩, ⟨f8, a8⟩, ⟨f9, a9, b9⟩, ⟨f10, a10, b10⟩⟩ := hP
  exact ⟨⟨f1, (s _ (by omega) (by omega)).trans a1, b1⟩, ⟨f2, (s _ (by omega) (by omega)).trans a2, b2⟩, ⟨f3, (s _ (by omega) (by omega)).trans a3, b3⟩, ⟨f4, (s _ (by omega) (by omega)).trans a4, b4⟩, ⟨f5, (s _ (by omega) (by omega)).trans a5, b5⟩, ⟨f6, (s _ (by omega) (by omega)).trans a6, b6⟩, ⟨f7, (s _ (by omega) (by omega)).trans a7, b7⟩, ⟨f8, (s _ (by omega) (by omega)).trans a8⟩, ⟨f9, (s _ (by omega) (by omega)).trans a9, b9⟩, ⟨f10, (s _ (by omega) (by omega)).trans a10, b10⟩⟩
theorem bits63 {s i : Nat} (hs : s < 64) (h : s.testBit i = true) : (63 : Nat).testBit i = true := by
  have hi : i < 6 := Nat.lt_of_not_le fun w => by
    have := Nat.testBit_lt_two_pow (Nat.lt_of_lt_of_le hs (Nat.pow_le_pow_right (n := 2) (by decide) w))
    rw [h] at this; cases this
  rcases (show i = 0 ∨ i = 1 ∨ i = 2 ∨ i = 3 ∨ i = 4 ∨ i = 5 by omega) with rfl | rfl | rfl | rfl | rfl | rfl <;> decide
theorem crAll.top {P : zP} {g : Nat} {L : List Nat} (okp : okP P) (hg : g < pH P) (h : crAll P g L) : 0 < L.length ∧ L.getD 0 0 < 64 ∧ zpop (L.getD 0 0) = zTop P g 63 := by
  obtain ⟨s, s1, s2, s3, s4⟩ := zTop_at (am := 63) okp hg
  have hm := (h.1 s).mpr ⟨s1, s3⟩
  have hl := List.length_pos_of_mem hm
  have hh : L.getD 0 0 ∈ L := by
    rw [z_getD hl]
    exact List.getElem_mem hl
  obtain ⟨t1, t2⟩ := (h.1 _).mp hh
  have h1 := h.2 s hm
  have h2 := zTop_le (am := 63) okp hg (fun i hi => bits63 t1 hi) t2
  exact ⟨hl, t1, by omega⟩
theorem zTop_I {P : zP} {g : Nat} (okp : okP P) (hg : g < pH P) : nI (pW P g) - nI (zmx (sLost P g 63) (2 ^ pW P g)) = nI (zTop P g 63) := by
  refine pk_sub (zmx_le fun t ht => ?_)
  have kW := (okp.2.2.2.2.2.1 g hg).2
  have key : ∀ w, w ≤ 3 → ∀ t, t < 2 ^ w → zpop t ≤ w := by decide +kernel
  have := key _ kW t ht
  unfold sLost
  omega
theorem sFull_iff {P : zP} {g w : Nat} {L : List Nat} (okp : okP P) (hg : g < pH P) (h : crAll P g L) : sFull P g w = true ↔ ∃ i, i < L.length ∧ zpop (L.getD i 0) = pW P g ∧ zdif (L.getD i 0) w = 0 := by
  have kW := okp.2.2.2.2.2.1 g hg
  unfold sFull
  rw [zall_iff]
  constructor
  · intro hf
    have hz : zmx (sLost P g w) (2 ^ pW P g) = 0 := Nat.le_zero.mp (zmx_le fun t ht => Nat.le_of_eq (of_decide_eq_true (hf t ht)))
    obtain ⟨s, s1, s2, s3, s4⟩ := zTop_at (am := w) okp hg
    have hm := (h.1 s).mpr ⟨s1, s3⟩
    obtain ⟨i, hi, he⟩ := List.getElem_of_mem hm
    refine ⟨i, hi, ?_, ?_⟩
    · rw [z_getD hi, he, s4, zTop, hz, Nat.sub_zero]
    · rw [z_getD hi, he]
      exact zdif_0.mpr s2
  · rintro ⟨i, hi, h1, h2⟩ t ht
    have hm : L.getD i 0 ∈ L := by rw [z_getD hi]; exact List.getElem_mem hi
    obtain ⟨t1, t2⟩ := (h.1 _).mp hm
    have h3 := zTop_le (am := w) okp hg (zdif_0.mp h2) t2
    rw [h1, zTop] at h3
    have h4 : sLost P g w t ≤ zmx (sLost P g w) (2 ^ pW P g) := le_zmx ht
    exact decide_eq_true (by omega)
def cIs (L : List Nat) (want w : Nat) (k : Nat) : Bool := !zall (fun i => !(decide (zpop (L.getD i 0) = want) && decide (zdif (L.getD i 0) w = 0))) k
theorem cIs_succ (L : List Nat) (want w k : Nat) : cIs L want w (k + 1) = (cIs L want w k || (decide (zpop (L.getD k 0) = want) && decide (zdif (L.getD k 0) w = 0))) := by
  unfold cIs
  rw [zall_succ, Bool.not_and, Bool.not_not]
theorem cIs_full {P : zP} {g w : Nat} {L : List Nat} (okp : okP P) (hg : g < pH P) (h : crAll P g L) : cIs L (pW P g) w L.length = sFull P g w := by
  rw [Bool.eq_iff_iff, sFull_iff okp hg h]
  unfold cIs
  rw [Bool.not_eq_true', ← Bool.not_eq_true, zall_iff, Classical.not_forall]
  constructor
  · rintro ⟨i, hi⟩
    obtain ⟨h1, h2⟩ := Classical.not_imp.mp hi
    simp at h2
    exact ⟨i, h1, h2.1, h2.2⟩
  · rintro ⟨i, h1, h2, h3⟩
    exact ⟨i, Classical.not_imp.mpr ⟨h1, by rw [decide_eq_true h2, decide_eq_true h3]; decide⟩⟩
section
variable {K : zK} {l : Launch} {n p q r g : Nat} {h h1 : zH} {x y z : Int32} {G : zS} {P : zP} {f : Nat → Int32} {T : zT}
theorem z_ix64m {g : Nat} (hg : g < 4) : zIx (64 * nI g) 256 (64 * g) := by
  rw [show (64 : Int32) = nI 64 from rfl, pk_mul]
  exact zIx.nI (by omega) (by decide)
theorem mRel.crews {cr bo cm : Nat → Int32} (hM : mRel h G) (hf : fcH h h1 cr bo cm) : mRel h1 G := by
  obtain ⟨X, f, kf, h34, ht, hP, h46, hN, h47, hkf, hI, hR⟩ := id hM
  exact hM.work (X := X) (fun k _ h2 => hf.2.2.2 k (by omega)) ((hf.2.2.2 34 (by omega)).trans h34) (hR.fc hf)
theorem r_X6_crew (hM : mRel h G) (ok : okS G) : zRex K l 3 mX6_crew [.ref 34, .int x] 59 h (fun v h' => v = some (.int (sCrew G x)) ∧ mRel h' G ∧ zSame 34 58 h h') := by
  refine zRex.of (by decide) (Nat.le_of_ble_eq_true rfl) (fun Q hQ => ?_)
  obtain ⟨⟨at_, st, so, va, fa, to, mo, wa, fe, ev⟩, f, kf, h1, ⟨tx, hx, htx⟩, hP, h46, hN, h47, hkf, hI, hRm⟩ := id hM
  have hc : mCore h (gP G) f := ⟨⟨_, _, _, h1⟩, hP, h46⟩
  have h1 : h 34 = .inr _ := h1
  obtain ⟨⟨f1, a1, b1⟩, ⟨f2, a2, b2⟩, ⟨f3, a3, b3⟩, ⟨f4, a4, b4⟩, ⟨f5, a5, b5⟩, ⟨f6, a6, b6⟩, ⟨f7, a7, b7⟩, ⟨f8, a8⟩, ⟨f9, a9, b9⟩, ⟨f10, a10, b10⟩⟩ := id hP
  have okp := ok.1
  have okt := ok.2.1
  have kH := okp.1
  have kR := okp.2.1
  unfold sCrew at hQ
  refine kX6_crew_0 ?_
  refine zb_go (zg_aload_n rfl) rfl ?_
  refine zb_go (zg_iload_n rfl) rfl ?_
  refine zb_callv (r_X6_isHour hc okp) lX6_137 (by repeat (first | assumption | exact z_up_self _ _ _ | refine (z_up_ne (by first | decide | omega)).trans ?_)) rfl rfl (by first | decide | assumption | omega) (by first | decide | omega) rfl (Nat.le_of_ble_eq_true rfl) rfl ?_
  refine zb_br (zg_if_ne (tgt := 10) (by decide)) rfl (fun c => ?_) (fun c => ?_)
  · have c' := zb_n.mp c
    have c : iH G x := c'
    rw [zite_t c] at hQ
    obtain ⟨g, hg, rfl⟩ := z_isIx (by omega) c
    rw [nI_clamp (by omega), zTop_I okp hg] at hQ
    refine kX6_crew_10 ?_
    refine zb_go (zg_aload_n rfl) rfl ?_
    refine zb_callvx (r_X6_findCrews hc okp hRm) lX6_185 (by repeat (first | assumption | exact z_up_self _ _ _ | refine (z_up_ne (by first | decide | omega)).trans ?_)) rfl rfl (by first | decide | assumption | omega) (by first | decide | omega) rfl (Nat.le_of_ble_eq_true rfl) rfl ?_
    rintro v h2 ⟨rfl, cr, bo, cm, L, hf, hL⟩
    obtain ⟨t1, t2, t3⟩ := (hL g (by omega)).2.top okp hg
    have q34 : h2 34 = _ := (hf.2.2.2 34 (by omega)).trans h1
    have q48 := hf.1
    have e0 : cr (64 * g) = nI ((L g).getD 0 0) := ((hL g (by omega)).1.2.2 0 t1).1
    refine zb_go (zg_aload_n rfl) rfl ?_
    refine zb_go (zg_getfield fX6_51 (by first | decide | assumption | omega) (by repeat (first | assumption | exact z_up_self _ _ _ | refine (z_up_ne (by first | decide | omega)).trans ?_)) (by rfl)) rfl ?_
    refine zb_go (zg_bipush 64 (by decide)) rfl ?_
    refine zb_go (zg_iload_n rfl) rfl ?_
    refine zb_go zg_imul rfl ?_
    refine zb_go (zi_iaload (by first | decide | assumption | omega) (by repeat (first | assumption | exact z_up_self _ _ _ | refine (z_up_ne (by first | decide | omega)).trans ?_)) (z_ix64m (by omega))) rfl ?_
    rw [e0]
    refine zb_calls (r_X6_bitsIn t2) lX6_179 rfl (by first | decide | omega) rfl (Nat.le_of_ble_eq_true rfl) rfl ?_
    refine zb_end (zg_ireturn rfl (by rfl) ?_) rfl
    rw [t3]
    exact hQ _ _ ⟨rfl, hM.crews hf, hf.2.2.2.wide (by omega) (by omega)⟩
  · have c' := zb_0.mp c
    rw [zite_f (show ¬ iH G x from c')] at hQ
    refine zb_go (zg_iconst (-1) (by decide)) rfl ?_
    refine zb_end (zg_ireturn rfl (by rfl) ?_) rfl
    exact hQ _ _ ⟨rfl, hM, zSame.rf⟩
theorem r_X6_bars (hM : mRel h G) (ok : okS G) : zRet K l 2 mX6_bars [.ref 34, .int x] 59 h (some (.int (sBars G x))) h := by
  refine zRet.of (by decide) (Nat.le_of_ble_eq_true rfl) (fun Q hQ => ?_)
  obtain ⟨⟨at_, st, so, va, fa, to, mo, wa, fe, ev⟩, f, kf, h1, ⟨tx, hx, htx⟩, hP, h46, hN, h47, hkf, hI, hRm⟩ := id hM
  have hc : mCore h (gP G) f := ⟨⟨_, _, _, h1⟩, hP, h46⟩
  have h1 : h 34 = .inr _ := h1
  obtain ⟨⟨f1, a1, b1⟩, ⟨f2, a2, b2⟩, ⟨f3, a3, b3⟩, ⟨f4, a4, b4⟩, ⟨f5, a5, b5⟩, ⟨f6, a6, b6⟩, ⟨f7, a7, b7⟩, ⟨f8, a8⟩, ⟨f9, a9, b9⟩, ⟨f10, a10, b10⟩⟩ := id hP
  have okp := ok.1
  have okt := ok.2.1
  have kH := okp.1
  have kR := okp.2.1
  unfold sBars at hQ
  refine kX6_bars_0 ?_
  refine zb_go (zg_aload_n rfl) rfl ?_
  refine zb_go (zg_iload_n rfl) rfl ?_
  refine zb_callv (r_X6_isHour hc okp) lX6_137 (by repeat (first | assumption | exact z_up_self _ _ _ | refine (z_up_ne (by first | decide | omega)).trans ?_)) rfl rfl (by first | decide | assumption | omega) (by first | decide | omega) rfl (Nat.le_of_ble_eq_true rfl) rfl ?_
  refine zb_br (zg_if_ne (tgt := 10) (by decide)) rfl (fun c => ?_) (fun c => ?_)
  · have c' := zb_n.mp c
    have c : iH G x := c'
    rw [zite_t c] at hQ
    obtain ⟨g, hg, rfl⟩ := z_isIx (by omega) c
    rw [nI_clamp (by omega)] at hQ
    have hg4 : g < 4 := by omega
    have i8 : zIx (nI g) 8 g := zIx.nI (by omega) (by decide)
    have hw := okp.2.2.2.2.2.1 g hg
    have hp := pW_pow okp hg
    have lp : ∀ s, s ≤ 2 ^ pW (gP G) g → (∀ t, t < s → sLost (gP G) g 63 t = 0) → ∀ ls, zGo K l 2 mX6_bars 12 ((0, .ref 34) :: (1, .int (nI g)) :: (2, .int (nI s)) :: ls) [] 59 h 0 0 Q := by
      refine z_down (2 ^ pW (gP G) g) (fun s hs ih hno ls => ?_)
      refine zg_sub [(0, .ref 34), (1, .int (nI g)), (2, .int (nI s))] (fun q hq => List.mem_append_left ls hq) ?_
      refine kX6_bars_12 ?_
      refine zb_go (zg_iload_n rfl) rfl ?_
      refine zb_go (zg_iconst 1 (by decide)) rfl ?_
      refine zb_go (zg_aload_n rfl) rfl ?_
      refine zb_go (zg_getfield fX6_17 (by first | decide | assumption | omega) (by repeat (first | assumption | exact z_up_self _ _ _ | refine (z_up_ne (by first | decide | omega)).trans ?_)) (by rfl)) rfl ?_
      refine zb_go (zg_iload_n rfl) rfl ?_
      refine zb_go (zi_iaload (by first | decide | assumption | omega) (by repeat (first | assumption | exact z_up_self _ _ _ | refine (z_up_ne (by first | decide | omega)).trans ?_)) i8) rfl ?_
      rw [b2 g hg]
      refine zb_go zg_ishl rfl ?_
      rw [z_one_shl (by omega)]
      refine zb_br (zg_icmp_ge (tgt := 92) (by decide)) rfl (fun c1 => ?_) (fun c1 => ?_)
      · obtain rfl := z_is_le (by omega) hs c1
        rw [zfst_none (p := fun s => decide (sLost (gP G) g 63 s ≠ 0)) (fun i hi => decide_eq_false (fun z => z (hno i hi)))] at hQ
        refine kX6_bars_92 ?_
        refine zb_go (zg_bipush (-9) (by decide)) rfl ?_
        refine zb_end (zg_ireturn rfl (by rfl) ?_) rfl
        exact hQ
      · have hs2 := z_not_le (by omega) hs c1
        have ih := ih hs2
        have hs64 : s < 64 := by omega
        have inner : ∀ k, k ≤ pR (gP G) → zGo K l 2 mX6_bars 29 [(0, .ref 34), (1, .int (nI g)), (2, .int (nI s)), (3, .int (nI (sAble (gP G) g 63 s k))), (4, .int (nI k))] [] 59 h 0 0 Q := by
          refine z_down (pR (gP G)) (fun k hk ih2 => ?_)
          refine kX6_bars_29 ?_
          refine zb_go (zg_iload rfl) rfl ?_
          refine zb_go (zg_aload_n rfl) rfl ?_
          refine zb_go (zg_getfield fX6_20 (by first | decide | assumption | omega) (by repeat (first | assumption | exact z_up_self _ _ _ | refine (z_up_ne (by first | decide | omega)).trans ?_)) (by rfl)) rfl ?_
          refine zb_go (zg_iconst 0 (by decide)) rfl ?_
          refine zb_go (zi_iaload (by first | decide | assumption | omega) (by repeat (first | assumption | exact z_up_self _ _ _ | refine (z_up_ne (by first | decide | omega)).trans ?_)) (by first | assumption | exact zIx.nI (by omega) (by decide) | exact ⟨by decide, by decide⟩ | exact zIx.nI (k := 0) (by decide) (by decide) | exact zIx.nI (k := 1) (by decide) (by decide) | exact zIx.nI (k := 2) (by decide) (by decide) | exact zIx.nI (k := 3) (by decide) (by decide))) rfl ?_
          rw [b3]
          refine zb_br (zg_icmp_ge (tgt := 76) (by decide)) rfl (fun c2 => ?_) (fun c2 => ?_)
          · obtain rfl := z_is_le (by omega) hk c2
            have kA := sAble_le (gP G) g 63 s okp
            have kp := zpop_le s
            refine kX6_bars_76 ?_
            refine zb_go (zg_iload_n rfl) rfl ?_
            refine zb_go (zg_iload_n rfl) rfl ?_
            refine zb_calls (r_X6_bitsIn hs64) lX6_179 rfl (by first | decide | omega) rfl (Nat.le_of_ble_eq_true rfl) rfl ?_
            refine zb_br (zg_icmp_ge (tgt := 86) (by decide)) rfl (fun c3 => ?_) (fun c3 => ?_)
            · have c3 := (nI_leI (by omega) (by omega)).mp c3
              refine kX6_bars_86 ?_
              refine zb_go (zg_iinc 1 (by decide) rfl (by decide)) rfl ?_
              refine zb_end (zg_goto (tgt := 12) (by decide) ?_) rfl
              rw [nI_1]
              refine ih (fun t ht => ?_) [(3, _), (4, _)]
              by_cases w : t = s
              · rw [w]; unfold sLost; omega
              · exact hno t (by omega)
            · have c3 : sAble (gP G) g 63 s (pR (gP G)) < zpop s := by
                rcases Nat.lt_or_ge (sAble (gP G) g 63 s (pR (gP G))) (zpop s) with w | w
                · exact w
                · exact absurd (nI_le w (by omega)) c3
              rw [zfst_some (p := fun s => decide (sLost (gP G) g 63 s ≠ 0)) hs2 (decide_eq_true (by unfold sLost; omega)) (fun i hi => decide_eq_false (fun z => z (hno i hi)))] at hQ
              refine zb_go (zg_iload_n rfl) rfl ?_
              refine zb_end (zg_ireturn rfl (by rfl) ?_) rfl
              exact hQ
          · have hk2 := z_not_le (by omega) hk c2
            have ih2 := ih2 hk2
            have hbe := (okp.2.2.2.2.2.2 k hk2).2.1
            have i12 : zIx (nI k) 12 k := zIx.nI (by omega) (by decide)
            have h63 : (63 : Nat).testBit k = true := by
              rcases (show k = 0 ∨ k = 1 ∨ k = 2 ∨ k = 3 ∨ k = 4 ∨ k = 5 by omega) with rfl | rfl | rfl | rfl | rfl | rfl <;> decide
            have eS : sAble (gP G) g 63 s (k + 1) = sAble (gP G) g 63 s k + if sBells (gP G) k g &&& s ≠ 0 then 1 else 0 := by
              simp only [sAble, zcnt, h63, Bool.true_and, decide_eq_true_eq]
            have hand : (sBells (gP G) k g &&& s ≠ 0) ↔ (pBe (gP G) k &&& s ≠ 0 ∧ (pBu (gP G) k).testBit g = false) := by
              have key : ∀ w, w ≤ 3 → ∀ t, t < 8 → t < 2 ^ w → ∀ b, b < 8 → b &&& (2 ^ w - 1) &&& t = b &&& t := by
                intro w hw t ht htw b _
                rw [Nat.and_assoc, Nat.and_comm (2 ^ w - 1) t, (sub_mask w hw t ht).mpr htw]
              unfold sBells
              by_cases w : (pBu (gP G) k).testBit g = false
              · rw [if_pos ⟨hk2, hg, w⟩, key _ hw.2 s (by omega) hs2 _ (by omega)]
                exact ⟨fun q => ⟨q, w⟩, fun q => q.1⟩
              · rw [if_neg (fun q => w q.2.2), Nat.zero_and]
                exact ⟨fun q => absurd rfl q, fun q => absurd q.2 w⟩
            rw [eS] at ih2
            have nope : ¬ (sBells (gP G) k g &&& s ≠ 0) → zGo K l 2 mX6_bars 67 [(0, .ref 34), (1, .int (nI g)), (2, .int (nI s)), (3, .int (nI (sAble (gP G) g 63 s k))), (4, .int (nI k))] [.int (nI (sAble (gP G) g 63 s k))] 59 h 0 0 Q := by
              intro w
              rw [if_neg w, Nat.add_zero] at ih2
              refine kX6_bars_67 ?_
              refine zb_go (zg_iconst 0 (by decide)) rfl ?_
              refine zb_out ?_
              refine kX6_bars_68 ?_
              refine zb_go zg_iadd rfl ?_
              refine zb_go (zg_istore_n (by decide)) rfl ?_
              refine zb_go (zg_iinc 1 (by decide) rfl (by decide)) rfl ?_
              refine zb_end (zg_goto (tgt := 29) (by decide) ?_) rfl
              rw [show nI (sAble (gP G) g 63 s k) + 0 = nI (sAble (gP G) g 63 s k) from Int32.add_zero _, nI_1]
              exact ih2
            refine zb_go (zg_iload_n rfl) rfl ?_
            refine zb_go (zg_aload_n rfl) rfl ?_
            refine zb_go (zg_getfield fX6_26 (by first | decide | assumption | omega) (by repeat (first | assumption | exact z_up_self _ _ _ | refine (z_up_ne (by first | decide | omega)).trans ?_)) (by rfl)) rfl ?_
            refine zb_go (zg_iload rfl) rfl ?_
            refine zb_go (zi_iaload (by first | decide | assumption | omega) (by repeat (first | assumption | exact z_up_self _ _ _ | refine (z_up_ne (by first | decide | omega)).trans ?_)) i12) rfl ?_
            rw [b5 k hk2]
            refine zb_go (zg_iload_n rfl) rfl ?_
            refine zb_go zg_iand rfl ?_
            rw [z_and]
            have kand : pBe (gP G) k &&& s < 64 := Nat.lt_of_le_of_lt Nat.and_le_left (by omega)
            refine zb_br (zg_if_eq (tgt := 67) (by decide)) rfl (fun c4 => ?_) (fun c4 => ?_)
            · refine nope (fun w => ?_)
              exact (hand.mp w).1 ((nI_eq (b := 0) (by omega) (by decide)).mp c4)
            · have c4 : pBe (gP G) k &&& s ≠ 0 := fun w => c4 (by rw [w]; rfl)
              refine zb_go (zg_aload_n rfl) rfl ?_
              refine zb_go (zg_iload rfl) rfl ?_
              refine zb_go (zg_iload_n rfl) rfl ?_
              refine zb_callv (r_X6_isBusy hc okp hk2 hg4) lX6_156 (by repeat (first | assumption | exact z_up_self _ _ _ | refine (z_up_ne (by first | decide | omega)).trans ?_)) rfl rfl (by first | decide | assumption | omega) (by first | decide | omega) rfl (Nat.le_of_ble_eq_true rfl) rfl ?_
              refine zb_br (zg_if_ne (tgt := 67) (by decide)) rfl (fun c5 => ?_) (fun c5 => ?_)
              · have c5 := zb_n.mp c5
                refine nope (fun w => ?_)
                have := (hand.mp w).2
                rw [c5] at this; cases this
              · have c5 := zb_0.mp c5
                have c5 : (pBu (gP G) k).testBit g = false := by simpa using c5
                rw [if_pos (hand.mpr ⟨c4, c5⟩)] at ih2
                refine zb_go (zg_iconst 1 (by decide)) rfl ?_
                refine zb_end (zg_goto (tgt := 68) (by decide) ?_) rfl
                refine kX6_bars_68 ?_
                refine zb_go zg_iadd rfl ?_
                refine zb_go (zg_istore_n (by decide)) rfl ?_
                refine zb_go (zg_iinc 1 (by decide) rfl (by decide)) rfl ?_
                refine zb_end (zg_goto (tgt := 29) (by decide) ?_) rfl
                rw [nI_1, nI_1]
                exact ih2
        refine zb_go (zg_iconst 0 (by decide)) rfl ?_
        refine zb_go (zg_istore_n (by decide)) rfl ?_
        refine zb_go (zg_iconst 0 (by decide)) rfl ?_
        refine zb_go (zg_istore (by decide)) rfl ?_
        refine zb_out ?_
        exact inner 0 (by omega)
    refine kX6_bars_10 ?_
    refine zb_go (zg_iconst 1 (by decide)) rfl ?_
    refine zb_go (zg_istore_n (by decide)) rfl ?_
    refine zb_out ?_
    refine lp 1 (Nat.pow_pos (by decide)) (fun t ht => ?_) []
    have : t = 0 := by omega
    rw [this]
    unfold sLost
    rw [zpop_0, Nat.zero_sub]
  · have c' := zb_0.mp c
    rw [zite_f (show ¬ iH G x from c')] at hQ
    refine zb_go (zg_iconst (-1) (by decide)) rfl ?_
    refine zb_end (zg_ireturn rfl (by rfl) ?_) rfl
    exact hQ
theorem r_X6_common {a b : Nat} (ha : a ≤ 100000000) (hb : b ≤ 100000000) : zRet K l 0 mX6_common [.int (nI a), .int (nI b)] n h (some (.int (nI (Nat.gcd a b)))) h := by
  refine zRet.of (by decide) (Nat.le_of_ble_eq_true rfl) (fun Q hQ => ?_)
  have lp : ∀ N u v, v ≤ N → u ≤ 100000000 → v ≤ 100000000 → Nat.gcd u v = Nat.gcd a b → zGo K l 0 mX6_common 4 [(0, .int (nI a)), (1, .int (nI b)), (2, .int (nI u)), (3, .int (nI v))] [] n h 0 0 Q := by
    intro N
    induction N with
    | zero =>
      intro u v hv hu hv2 hg
      have e : v = 0 := Nat.le_zero.mp hv
      subst e
      rw [Nat.gcd_zero_right] at hg
      rw [← hg] at hQ
      refine kX6_common_4 ?_
      refine zb_go (zg_iload_n rfl) rfl ?_
      refine zb_br (zg_if_eq (tgt := 21) (by decide)) rfl (fun c => ?_) (fun c => ?_)
      · refine kX6_common_21 ?_
        refine zb_go (zg_iload_n rfl) rfl ?_
        refine zb_end (zg_ireturn rfl (by rfl) ?_) rfl
        exact hQ
      · exact absurd rfl c
    | succ N ih =>
      intro u v hv hu hv2 hg
      refine kX6_common_4 ?_
      refine zb_go (zg_iload_n rfl) rfl ?_
      refine zb_br (zg_if_eq (tgt := 21) (by decide)) rfl (fun c => ?_) (fun c => ?_)
      · have e : v = 0 := (nI_eq (b := 0) (by omega) (by decide)).mp c
        subst e
        rw [Nat.gcd_zero_right] at hg
        rw [← hg] at hQ
        refine kX6_common_21 ?_
        refine zb_go (zg_iload_n rfl) rfl ?_
        refine zb_end (zg_ireturn rfl (by rfl) ?_) rfl
        exact hQ
      · have hv0 : v ≠ 0 := fun w => c (by rw [w]; rfl)
        refine zb_go (zg_iload_n rfl) rfl ?_
        refine zb_go (zg_iload_n rfl) rfl ?_
        refine zb_go (zg_irem (nI_ne0 (by omega) (by omega))) rfl ?_
        refine zb_go (zg_istore (by decide)) rfl ?_
        refine zb_go (zg_iload_n rfl) rfl ?_
        refine zb_go (zg_istore_n (by decide)) rfl ?_
        refine zb_go (zg_iload rfl) rfl ?_
        refine zb_go (zg_istore_n (by decide)) rfl ?_
        refine zb_end (zg_goto (tgt := 4) (by decide) ?_) rfl
        rw [z_remN (by omega) (by omega) (by omega)]
        refine zg_keep [0, 1, 2, 3] ?_
        have h5 := Nat.mod_lt u (show 0 < v by omega)
        exact ih v (u % v) (by omega) hv2 (by omega) (by rw [Nat.gcd_comm, ← Nat.gcd_rec, Nat.gcd_comm]; exact hg)
  refine kX6_common_0 ?_
  refine zb_go (zg_iload_n rfl) rfl ?_
  refine zb_go (zg_istore_n (by decide)) rfl ?_
  refine zb_go (zg_iload_n rfl) rfl ?_
  refine zb_go (zg_istore_n (by decide)) rfl ?_
  refine zb_out ?_
  exact lp b a b (Nat.le_refl _) ha hb rfl
set_option maxHeartbeats 8000000 in
theorem r_X6_odds (hM : mRel h G) (ok : okS G) : zRex K l 3 mX6_odds [.ref 34, .int x, .int y] 59 h (fun v h' => v = some (.int (sOdd G x y)) ∧ mRel h' G ∧ zSame 34 58 h h') := by
  refine zRex.of (by decide) (Nat.le_of_ble_eq_true rfl) (fun Q hQ => ?_)
  obtain ⟨⟨at_, st, so, va, fa, to, mo, wa, fe, ev⟩, f, kf, h1, ⟨tx, hx, htx⟩, hP, h46, hN, h47, hkf, hI, hRm⟩ := id hM
  have hc : mCore h (gP G) f := ⟨⟨_, _, _, h1⟩, hP, h46⟩
  have h1 : h 34 = .inr _ := h1
  obtain ⟨⟨f1, a1, b1⟩, ⟨f2, a2, b2⟩, ⟨f3, a3, b3⟩, ⟨f4, a4, b4⟩, ⟨f5, a5, b5⟩, ⟨f6, a6, b6⟩, ⟨f7, a7, b7⟩, ⟨f8, a8⟩, ⟨f9, a9, b9⟩, ⟨f10, a10, b10⟩⟩ := id hP
  have okp := ok.1
  have okt := ok.2.1
  have kH := okp.1
  have kR := okp.2.1
  unfold sOdd at hQ
  have bad : ¬ (iH G x ∧ 0 ≤ y ∧ y ≤ 1) → zGo K l 3 mX6_odds 17 (lv_args 0 [.ref 34, .int x, .int y]) [] 59 h 0 0 Q := by
    intro hn
    rw [zite_f hn] at hQ
    refine kX6_odds_17 ?_
    refine zb_go (zg_iconst (-1) (by decide)) rfl ?_
    refine zb_end (zg_ireturn rfl (by rfl) ?_) rfl
    exact hQ _ _ ⟨rfl, hM, zSame.rf⟩
  by_cases hx : iH G x
  · by_cases hy : 0 ≤ y ∧ y ≤ 1
    · rw [zite_t ⟨hx, hy⟩] at hQ
      obtain ⟨g, hg, rfl⟩ := z_isIx (by omega) hx
      rw [nI_clamp (by omega)] at hQ
      have hg4 : g < 4 := by omega
      have i8 : zIx (nI g) 8 g := zIx.nI (by omega) (by decide)
      have i4 : zIx (nI g) 4 g := zIx.nI (by omega) (by decide)
      have hw := okp.2.2.2.2.2.1 g hg
      have kR64 := pR_64 okp
      have hup : sOddN (gP G) g ≤ 64 * 10 ^ pR (gP G) := Nat.le_trans (sOdds_le okp _) (Nat.mul_le_mul_right _ (Nat.pow_le_pow_right (by decide) kR : 2 ^ pR (gP G) ≤ 2 ^ 6))
      have h10 : 10 ^ pR (gP G) ≤ 10 ^ 6 := Nat.pow_le_pow_right (by decide) kR
      have hp1 : 0 < 10 ^ pR (gP G) := Nat.pow_pos (by decide)
      have hc0 : 0 < Nat.gcd (sOddN (gP G) g) (10 ^ pR (gP G)) := Nat.gcd_pos_of_pos_right _ hp1
      have hc1 : Nat.gcd (sOddN (gP G) g) (10 ^ pR (gP G)) ≤ 10 ^ pR (gP G) := Nat.gcd_le_right _ hp1
      refine kX6_odds_0 ?_
      refine zb_go (zg_aload_n rfl) rfl ?_
      refine zb_go (zg_iload_n rfl) rfl ?_
      refine zb_callv (r_X6_isHour hc okp) lX6_137 (by repeat (first | assumption | exact z_up_self _ _ _ | refine (z_up_ne (by first | decide | omega)).trans ?_)) rfl rfl (by first | decide | assumption | omega) (by first | decide | omega) rfl (Nat.le_of_ble_eq_true rfl) rfl ?_
      refine zb_br (zg_if_eq (tgt := 17) (by decide)) rfl (fun c0 => ?_) (fun c0 => ?_)
      · exact absurd hx (show ¬ (0 ≤ nI g ∧ nI g < nI (pH (gP G))) from zb_0.mp c0)
      · refine zb_go (zg_iload_n rfl) rfl ?_
        refine zb_go (zg_iconst 0 (by decide)) rfl ?_
        refine zb_go (zg_iconst 1 (by decide)) rfl ?_
        refine zb_calls (r_X6_inT hy) lX6_87 rfl (by first | decide | omega) rfl (Nat.le_of_ble_eq_true rfl) rfl ?_
        refine zb_br (zg_if_ne (tgt := 19) (by decide)) rfl (fun c1 => ?_) (fun c1 => ?_)
        · refine kX6_odds_19 ?_
          refine zb_go (zg_aload_n rfl) rfl ?_
          refine zb_callvx (r_X6_findCrews hc okp hRm) lX6_185 (by repeat (first | assumption | exact z_up_self _ _ _ | refine (z_up_ne (by first | decide | omega)).trans ?_)) rfl rfl (by first | decide | assumption | omega) (by first | decide | omega) rfl (Nat.le_of_ble_eq_true rfl) rfl ?_
          rintro v h2 ⟨rfl, cr, bo, cm, L, hf, hL⟩
          have q34 : h2 34 = _ := (hf.2.2.2 34 (by omega)).trans h1
          have q37 : h2 37 = _ := (hf.2.2.2 37 (by omega)).trans a2
          have q38 : h2 38 = _ := (hf.2.2.2 38 (by omega)).trans a3
          have q42 : h2 42 = _ := (hf.2.2.2 42 (by omega)).trans a7
          have q48 := hf.1
          have q50 := hf.2.2.1
          obtain ⟨⟨l1, l2, l3⟩, l4⟩ := hL g hg4
          have hM2 := hM.crews hf
          have s2 : zSame 34 58 h h2 := hf.2.2.2.wide (by omega) (by omega)
          obtain ⟨Lg, eL⟩ : ∃ Lg, L g = Lg := ⟨_, rfl⟩
          rw [eL] at l1 l2 l3 l4
          have fin : ∀ ls, zGo K l 3 mX6_odds 223 ((0, .ref 34) :: (1, .int (nI g)) :: (2, .int y) :: (3, .int (nI (sOddN (gP G) g))) :: (4, .int (nI (10 ^ pR (gP G)))) :: ls) [] 59 h2 0 0 Q := by
            intro ls
            refine zg_sub [(0, .ref 34), (1, .int (nI g)), (2, .int y), (3, .int (nI (sOddN (gP G) g))), (4, .int (nI (10 ^ pR (gP G))))] (fun q hq => List.mem_append_left ls hq) ?_
            refine kX6_odds_223 ?_
            refine zb_go (zg_iload_n rfl) rfl ?_
            refine zb_go (zg_iload rfl) rfl ?_
            refine zb_calls (r_X6_common (a := sOddN (gP G) g) (b := 10 ^ pR (gP G)) (by omega) (by omega)) lX6_227 rfl (by first | decide | omega) rfl (Nat.le_of_ble_eq_true rfl) rfl ?_
            refine zb_go (zg_istore (by decide)) rfl ?_
            refine zb_go (zg_iload_n rfl) rfl ?_
            refine zb_br (zg_if_ne (tgt := 242) (by decide)) rfl (fun c4 => ?_) (fun c4 => ?_)
            · rw [if_neg c4, ← pk_div (by omega) hc0 (by omega)] at hQ
              refine kX6_odds_242 ?_
              refine zb_go (zg_iload rfl) rfl ?_
              refine zb_go (zg_iload rfl) rfl ?_
              refine zb_go (zg_idiv (nI_ne0 hc0 (by omega))) rfl ?_
              refine zb_out ?_
              refine kX6_odds_247 ?_
              refine zb_end (zg_ireturn rfl (by rfl) ?_) rfl
              exact hQ _ _ ⟨rfl, hM2, s2⟩
            · rw [if_pos c4, ← pk_div (by omega) hc0 (by omega)] at hQ
              refine zb_go (zg_iload_n rfl) rfl ?_
              refine zb_go (zg_iload rfl) rfl ?_
              refine zb_go (zg_idiv (nI_ne0 hc0 (by omega))) rfl ?_
              refine zb_end (zg_goto (tgt := 247) (by decide) ?_) rfl
              refine kX6_odds_247 ?_
              refine zb_end (zg_ireturn rfl (by rfl) ?_) rfl
              exact hQ _ _ ⟨rfl, hM2, s2⟩
          have lpW : ∀ w, w ≤ 2 ^ pR (gP G) → ∀ ls, zGo K l 3 mX6_odds 58 ((0, .ref 34) :: (1, .int (nI g)) :: (2, .int y) :: (3, .int (nI (sOdds (gP G) g w))) :: (4, .int (nI (10 ^ pR (gP G)))) :: (5, .int (nI w)) :: ls) [] 59 h2 0 0 Q := by
            refine z_down (2 ^ pR (gP G)) (fun w hw2 ih ls => ?_)
            refine zg_sub [(0, .ref 34), (1, .int (nI g)), (2, .int y), (3, .int (nI (sOdds (gP G) g w))), (4, .int (nI (10 ^ pR (gP G)))), (5, .int (nI w))] (fun q hq => List.mem_append_left ls hq) ?_
            refine kX6_odds_58 ?_
            refine zb_go (zg_iload rfl) rfl ?_
            refine zb_go (zg_iconst 1 (by decide)) rfl ?_
            refine zb_go (zg_aload_n rfl) rfl ?_
            refine zb_go (zg_getfield fX6_20 (by first | decide | assumption | omega) (by repeat (first | assumption | exact z_up_self _ _ _ | refine (z_up_ne (by first | decide | omega)).trans ?_)) (by rfl)) rfl ?_
            refine zb_go (zg_iconst 0 (by decide)) rfl ?_
            refine zb_go (zi_iaload (by first | decide | assumption | omega) (by repeat (first | assumption | exact z_up_self _ _ _ | refine (z_up_ne (by first | decide | omega)).trans ?_)) (by first | assumption | exact zIx.nI (by omega) (by decide) | exact ⟨by decide, by decide⟩ | exact zIx.nI (k := 0) (by decide) (by decide) | exact zIx.nI (k := 1) (by decide) (by decide) | exact zIx.nI (k := 2) (by decide) (by decide) | exact zIx.nI (k := 3) (by decide) (by decide))) rfl ?_
            rw [b3]
            refine zb_go zg_ishl rfl ?_
            rw [z_one_shl (by omega)]
            refine zb_br (zg_icmp_ge (tgt := 223) (by decide)) rfl (fun c2 => ?_) (fun c2 => ?_)
            · obtain rfl := z_is_le (by omega) hw2 c2
              exact fin [(5, _)]
            · have hw3 := z_not_le (by omega) hw2 c2
              have ih := ih hw3
              have kw : w < 64 := by omega
              have eO : sOdds (gP G) g (w + 1) = sOdds (gP G) g w + if sFull (gP G) g w then sWt (gP G) w (pR (gP G)) else 0 := rfl
              have lpC : ∀ k, k ≤ Lg.length → ∀ ls, zGo K l 3 mX6_odds 136 ((0, .ref 34) :: (1, .int (nI g)) :: (2, .int y) :: (3, .int (nI (sOdds (gP G) g w))) :: (4, .int (nI (10 ^ pR (gP G)))) :: (5, .int (nI w)) :: (6, .int (bI (cIs Lg (pW (gP G) g) w k))) :: (7, .int (nI (sWt (gP G) w (pR (gP G))))) :: (8, .int (nI k)) :: ls) [] 59 h2 0 0 Q := by
                refine z_down Lg.length (fun k hk ihC ls => ?_)
                refine zg_sub [(0, .ref 34), (1, .int (nI g)), (2, .int y), (3, .int (nI (sOdds (gP G) g w))), (4, .int (nI (10 ^ pR (gP G)))), (5, .int (nI w)), (6, .int (bI (cIs Lg (pW (gP G) g) w k))), (7, .int (nI (sWt (gP G) w (pR (gP G))))), (8, .int (nI k))] (fun q hq => List.mem_append_left ls hq) ?_
                refine kX6_odds_136 ?_
                refine zb_go (zg_iload rfl) rfl ?_
                refine zb_go (zg_aload_n rfl) rfl ?_
                refine zb_go (zg_getfield fX6_57 (by first | decide | assumption | omega) (by repeat (first | assumption | exact z_up_self _ _ _ | refine (z_up_ne (by first | decide | omega)).trans ?_)) (by rfl)) rfl ?_
                refine zb_go (zg_iload_n rfl) rfl ?_
                refine zb_go (zi_iaload (by first | decide | assumption | omega) (by repeat (first | assumption | exact z_up_self _ _ _ | refine (z_up_ne (by first | decide | omega)).trans ?_)) i4) rfl ?_
                rw [l1]
                refine zb_br (zg_icmp_ge (tgt := 203) (by decide)) rfl (fun c3 => ?_) (fun c3 => ?_)
                · obtain rfl := z_is_le (by omega) hk c3
                  rw [cIs_full okp hg l4]
                  rw [eO] at ih
                  refine kX6_odds_203 ?_
                  refine zb_go (zg_iload_n rfl) rfl ?_
                  refine zb_go (zg_iload rfl) rfl ?_
                  refine zb_br (zg_if_eq (tgt := 214) (by decide)) rfl (fun c4 => ?_) (fun c4 => ?_)
                  · rw [bI_0.mp c4] at ih
                    refine kX6_odds_214 ?_
                    refine zb_go (zg_iconst 0 (by decide)) rfl ?_
                    refine zb_out ?_
                    refine kX6_odds_215 ?_
                    refine zb_go zg_iadd rfl ?_
                    refine zb_go (zg_istore_n (by decide)) rfl ?_
                    refine zb_go (zg_iinc 1 (by decide) rfl (by decide)) rfl ?_
                    refine zb_end (zg_goto (tgt := 58) (by decide) ?_) rfl
                    rw [Int32.add_zero, nI_1]
                    exact ih [(6, _), (7, _), (8, _)]
                  · have c4 := bI_n.mp c4
                    rw [c4] at ih
                    refine zb_go (zg_iload rfl) rfl ?_
                    refine zb_end (zg_goto (tgt := 215) (by decide) ?_) rfl
                    refine kX6_odds_215 ?_
                    refine zb_go zg_iadd rfl ?_
                    refine zb_go (zg_istore_n (by decide)) rfl ?_
                    refine zb_go (zg_iinc 1 (by decide) rfl (by decide)) rfl ?_
                    refine zb_end (zg_goto (tgt := 58) (by decide) ?_) rfl
                    rw [nI_add, nI_1]
                    exact ih [(6, _), (7, _), (8, _)]
                · have hk2 := z_not_le (by omega) hk c3
                  have ihC := ihC hk2
                  rw [cIs_succ] at ihC
                  have ekk := (l3 k hk2).1
                  have hmem : Lg.getD k 0 ∈ Lg := by rw [z_getD hk2]; exact List.getElem_mem hk2
                  have k64 := ((l4.1 _).mp hmem).1
                  obtain ⟨s, es⟩ : ∃ s, Lg.getD k 0 = s := ⟨_, rfl⟩
                  rw [es] at ekk k64 ihC
                  have kp := zpop_le s
                  have kd : zdif s w < 64 := zdif_lt k64
                  have i256 : zIx (64 * nI g + nI k) 256 (64 * g + k) := by
                    rw [show (64 : Int32) = nI 64 from rfl, pk_mul, nI_add]
                    exact zIx.nI (by omega) (by decide)
                  have no : (cIs Lg (pW (gP G) g) w k || (decide (zpop s = pW (gP G) g) && decide (zdif s w = 0))) = false → zGo K l 3 mX6_odds 194 [(0, .ref 34), (1, .int (nI g)), (2, .int y), (3, .int (nI (sOdds (gP G) g w))), (4, .int (nI (10 ^ pR (gP G)))), (5, .int (nI w)), (6, .int (bI (cIs Lg (pW (gP G) g) w k))), (7, .int (nI (sWt (gP G) w (pR (gP G))))), (8, .int (nI k)), (9, .int (nI s))] [] 59 h2 0 0 Q := by
                    intro hz
                    rw [hz] at ihC
                    refine kX6_odds_194 ?_
                    refine zb_go (zg_iconst 0 (by decide)) rfl ?_
                    refine zb_out ?_
                    refine kX6_odds_195 ?_
                    refine zb_go (zg_istore (by decide)) rfl ?_
                    refine zb_go (zg_iinc 1 (by decide) rfl (by decide)) rfl ?_
                    refine zb_end (zg_goto (tgt := 136) (by decide) ?_) rfl
                    rw [nI_1]
                    exact ihC [(9, _)]
                  have yes : (cIs Lg (pW (gP G) g) w k || (decide (zpop s = pW (gP G) g) && decide (zdif s w = 0))) = true → zGo K l 3 mX6_odds 190 [(0, .ref 34), (1, .int (nI g)), (2, .int y), (3, .int (nI (sOdds (gP G) g w))), (4, .int (nI (10 ^ pR (gP G)))), (5, .int (nI w)), (6, .int (bI (cIs Lg (pW (gP G) g) w k))), (7, .int (nI (sWt (gP G) w (pR (gP G))))), (8, .int (nI k)), (9, .int (nI s))] [] 59 h2 0 0 Q := by
                    intro hz
                    rw [hz] at ihC
                    refine kX6_odds_190 ?_
                    refine zb_go (zg_iconst 1 (by decide)) rfl ?_
                    refine zb_end (zg_goto (tgt := 195) (by decide) ?_) rfl
                    refine kX6_odds_195 ?_
                    refine zb_go (zg_istore (by decide)) rfl ?_
                    refine zb_go (zg_iinc 1 (by decide) rfl (by decide)) rfl ?_
                    refine zb_end (zg_goto (tgt := 136) (by decide) ?_) rfl
                    rw [nI_1]
                    exact ihC [(9, _)]
                  refine zb_go (zg_aload_n rfl) rfl ?_
                  refine zb_go (zg_getfield fX6_51 (by first | decide | assumption | omega) (by repeat (first | assumption | exact z_up_self _ _ _ | refine (z_up_ne (by first | decide | omega)).trans ?_)) (by rfl)) rfl ?_
                  refine zb_go (zg_bipush 64 (by decide)) rfl ?_
                  refine zb_go (zg_iload_n rfl) rfl ?_
                  refine zb_go zg_imul rfl ?_
                  refine zb_go (zg_iload rfl) rfl ?_
                  refine zb_go zg_iadd rfl ?_
                  refine zb_go (zi_iaload (by first | decide | assumption | omega) (by repeat (first | assumption | exact z_up_self _ _ _ | refine (z_up_ne (by first | decide | omega)).trans ?_)) i256) rfl ?_
                  rw [ekk]
                  refine zb_go (zg_istore (by decide)) rfl ?_
                  refine zb_go (zg_iload rfl) rfl ?_
                  refine zb_br (zg_if_ne (tgt := 190) (by decide)) rfl (fun c5 => ?_) (fun c5 => ?_)
                  · exact yes (by rw [bI_n.mp c5, Bool.true_or])
                  · have c5 := bI_0.mp c5
                    rw [c5, Bool.false_or] at no yes
                    rw [c5]
                    refine zb_go (zg_iload rfl) rfl ?_
                    refine zb_calls (r_X6_bitsIn k64) lX6_179 rfl (by first | decide | omega) rfl (Nat.le_of_ble_eq_true rfl) rfl ?_
                    refine zb_go (zg_aload_n rfl) rfl ?_
                    refine zb_go (zg_getfield fX6_17 (by first | decide | assumption | omega) (by repeat (first | assumption | exact z_up_self _ _ _ | refine (z_up_ne (by first | decide | omega)).trans ?_)) (by rfl)) rfl ?_
                    refine zb_go (zg_iload_n rfl) rfl ?_
                    refine zb_go (zi_iaload (by first | decide | assumption | omega) (by repeat (first | assumption | exact z_up_self _ _ _ | refine (z_up_ne (by first | decide | omega)).trans ?_)) i8) rfl ?_
                    rw [b2 g hg]
                    refine zb_br (zg_icmp_ne (tgt := 194) (by decide)) rfl (fun c6 => ?_) (fun c6 => ?_)
                    · have c6 : zpop s ≠ pW (gP G) g := fun w => c6 (by rw [w])
                      exact no (by rw [decide_eq_false c6, Bool.false_and])
                    · have c6 : zpop s = pW (gP G) g := (nI_eq (by omega) (by omega)).mp c6
                      rw [decide_eq_true c6, Bool.true_and] at no yes
                      refine zb_go (zg_iload rfl) rfl ?_
                      refine zb_go (zg_iload rfl) rfl ?_
                      refine zb_go (zg_iconst (-1) (by decide)) rfl ?_
                      refine zb_go zg_ixor rfl ?_
                      refine zb_go zg_iand rfl ?_
                      rw [z_andn]
                      refine zb_br (zg_if_ne (tgt := 194) (by decide)) rfl (fun c7 => ?_) (fun c7 => ?_)
                      · exact no (decide_eq_false (fun w => c7 (by rw [w]; rfl)))
                      · refine zb_out ?_
                        exact yes (decide_eq_true ((nI_eq (b := 0) (by omega) (by decide)).mp c7))
              have lpR : ∀ k, k ≤ pR (gP G) → zGo K l 3 mX6_odds 80 [(0, .ref 34), (1, .int (nI g)), (2, .int y), (3, .int (nI (sOdds (gP G) g w))), (4, .int (nI (10 ^ pR (gP G)))), (5, .int (nI w)), (6, .int 0), (7, .int (nI (sWt (gP G) w k))), (8, .int (nI k))] [] 59 h2 0 0 Q := by
                refine z_down (pR (gP G)) (fun k hk ihR => ?_)
                refine kX6_odds_80 ?_
                refine zb_go (zg_iload rfl) rfl ?_
                refine zb_go (zg_aload_n rfl) rfl ?_
                refine zb_go (zg_getfield fX6_20 (by first | decide | assumption | omega) (by repeat (first | assumption | exact z_up_self _ _ _ | refine (z_up_ne (by first | decide | omega)).trans ?_)) (by rfl)) rfl ?_
                refine zb_go (zg_iconst 0 (by decide)) rfl ?_
                refine zb_go (zi_iaload (by first | decide | assumption | omega) (by repeat (first | assumption | exact z_up_self _ _ _ | refine (z_up_ne (by first | decide | omega)).trans ?_)) (by first | assumption | exact zIx.nI (by omega) (by decide) | exact ⟨by decide, by decide⟩ | exact zIx.nI (k := 0) (by decide) (by decide) | exact zIx.nI (k := 1) (by decide) (by decide) | exact zIx.nI (k := 2) (by decide) (by decide) | exact zIx.nI (k := 3) (by decide) (by decide))) rfl ?_
                rw [b3]
                refine zb_br (zg_icmp_ge (tgt := 133) (by decide)) rfl (fun c3 => ?_) (fun c3 => ?_)
                · obtain rfl := z_is_le (by omega) hk c3
                  refine kX6_odds_133 ?_
                  refine zb_go (zg_iconst 0 (by decide)) rfl ?_
                  refine zb_go (zg_istore (by decide)) rfl ?_
                  refine zb_out ?_
                  exact lpC 0 (Nat.zero_le _) []
                · have hk2 := z_not_le (by omega) hk c3
                  have ihR := ihR hk2
                  have hil := (okp.2.2.2.2.2.2 k hk2).2.2.2
                  have i12 : zIx (nI k) 12 k := zIx.nI (by omega) (by decide)
                  have eW : sWt (gP G) w (k + 1) = sWt (gP G) w k * if w.testBit k then 10 - pIl (gP G) k else pIl (gP G) k := rfl
                  rw [eW] at ihR
                  refine zb_go (zg_iload rfl) rfl ?_
                  refine zb_go (zg_iload rfl) rfl ?_
                  refine zb_go (zg_iload rfl) rfl ?_
                  refine zb_go zg_ishr rfl ?_
                  refine zb_go (zg_iconst 1 (by decide)) rfl ?_
                  refine zb_go zg_iand rfl ?_
                  refine zb_go (zg_iconst 1 (by decide)) rfl ?_
                  rw [z_bit (by omega) (by omega)]
                  refine zb_br (zg_icmp_ne (tgt := 117) (by decide)) rfl (fun c4 => ?_) (fun c4 => ?_)
                  · have hb : ¬ w.testBit k = true := fun u => by rw [if_pos u] at c4; exact c4 rfl
                    rw [if_neg hb] at ihR
                    refine kX6_odds_117 ?_
                    refine zb_go (zg_aload_n rfl) rfl ?_
                    refine zb_go (zg_getfield fX6_32 (by first | decide | assumption | omega) (by repeat (first | assumption | exact z_up_self _ _ _ | refine (z_up_ne (by first | decide | omega)).trans ?_)) (by rfl)) rfl ?_
                    refine zb_go (zg_iload rfl) rfl ?_
                    refine zb_go (zi_iaload (by first | decide | assumption | omega) (by repeat (first | assumption | exact z_up_self _ _ _ | refine (z_up_ne (by first | decide | omega)).trans ?_)) i12) rfl ?_
                    rw [b7 k hk2]
                    refine zb_out ?_
                    refine kX6_odds_124 ?_
                    refine zb_go zg_imul rfl ?_
                    refine zb_go (zg_istore (by decide)) rfl ?_
                    refine zb_go (zg_iinc 1 (by decide) rfl (by decide)) rfl ?_
                    refine zb_end (zg_goto (tgt := 80) (by decide) ?_) rfl
                    rw [pk_mul, nI_1]
                    exact ihR
                  · have hb : w.testBit k = true := by
                      rcases Bool.eq_false_or_eq_true (w.testBit k) with u | u
                      · exact u
                      · rw [if_neg (by rw [u]; decide)] at c4; exact absurd c4 (by decide)
                    rw [if_pos hb] at ihR
                    refine zb_go (zg_bipush 10 (by decide)) rfl ?_
                    refine zb_go (zg_aload_n rfl) rfl ?_
                    refine zb_go (zg_getfield fX6_32 (by first | decide | assumption | omega) (by repeat (first | assumption | exact z_up_self _ _ _ | refine (z_up_ne (by first | decide | omega)).trans ?_)) (by rfl)) rfl ?_
                    refine zb_go (zg_iload rfl) rfl ?_
                    refine zb_go (zi_iaload (by first | decide | assumption | omega) (by repeat (first | assumption | exact z_up_self _ _ _ | refine (z_up_ne (by first | decide | omega)).trans ?_)) i12) rfl ?_
                    rw [b7 k hk2]
                    refine zb_go zg_isub rfl ?_
                    rw [show (10 : Int32) = nI 10 from rfl, pk_sub (by omega)]
                    refine zb_end (zg_goto (tgt := 124) (by decide) ?_) rfl
                    refine kX6_odds_124 ?_
                    refine zb_go zg_imul rfl ?_
                    refine zb_go (zg_istore (by decide)) rfl ?_
                    refine zb_go (zg_iinc 1 (by decide) rfl (by decide)) rfl ?_
                    refine zb_end (zg_goto (tgt := 80) (by decide) ?_) rfl
                    rw [pk_mul, nI_1]
                    exact ihR
              refine zb_go (zg_iconst 0 (by decide)) rfl ?_
              refine zb_go (zg_istore (by decide)) rfl ?_
              refine zb_go (zg_iconst 1 (by decide)) rfl ?_
              refine zb_go (zg_istore (by decide)) rfl ?_
              refine zb_go (zg_iconst 0 (by decide)) rfl ?_
              refine zb_go (zg_istore (by decide)) rfl ?_
              refine zb_out ?_
              exact lpR 0 (by omega)
          have lpA : ∀ k, k ≤ pR (gP G) → zGo K l 3 mX6_odds 31 [(0, .ref 34), (1, .int (nI g)), (2, .int y), (3, .int 0), (4, .int (nI (10 ^ k))), (5, .int (nI k))] [] 59 h2 0 0 Q := by
            refine z_down (pR (gP G)) (fun k hk ih => ?_)
            refine kX6_odds_31 ?_
            refine zb_go (zg_iload rfl) rfl ?_
            refine zb_go (zg_aload_n rfl) rfl ?_
            refine zb_go (zg_getfield fX6_20 (by first | decide | assumption | omega) (by repeat (first | assumption | exact z_up_self _ _ _ | refine (z_up_ne (by first | decide | omega)).trans ?_)) (by rfl)) rfl ?_
            refine zb_go (zg_iconst 0 (by decide)) rfl ?_
            refine zb_go (zi_iaload (by first | decide | assumption | omega) (by repeat (first | assumption | exact z_up_self _ _ _ | refine (z_up_ne (by first | decide | omega)).trans ?_)) (by first | assumption | exact zIx.nI (by omega) (by decide) | exact ⟨by decide, by decide⟩ | exact zIx.nI (k := 0) (by decide) (by decide) | exact zIx.nI (k := 1) (by decide) (by decide) | exact zIx.nI (k := 2) (by decide) (by decide) | exact zIx.nI (k := 3) (by decide) (by decide))) rfl ?_
            rw [b3]
            refine zb_br (zg_icmp_ge (tgt := 55) (by decide)) rfl (fun c2 => ?_) (fun c2 => ?_)
            · obtain rfl := z_is_le (by omega) hk c2
              refine kX6_odds_55 ?_
              refine zb_go (zg_iconst 0 (by decide)) rfl ?_
              refine zb_go (zg_istore (by decide)) rfl ?_
              refine zb_out ?_
              exact lpW 0 (Nat.zero_le _) []
            · have hk2 := z_not_le (by omega) hk c2
              have ih := ih hk2
              refine zb_go (zg_iload rfl) rfl ?_
              refine zb_go (zg_bipush 10 (by decide)) rfl ?_
              refine zb_go zg_imul rfl ?_
              refine zb_go (zg_istore (by decide)) rfl ?_
              refine zb_go (zg_iinc 1 (by decide) rfl (by decide)) rfl ?_
              refine zb_end (zg_goto (tgt := 31) (by decide) ?_) rfl
              rw [show (10 : Int32) = nI 10 from rfl, pk_mul, nI_1, ← Nat.pow_succ]
              exact ih
          refine zb_go (zg_iconst 0 (by decide)) rfl ?_
          refine zb_go (zg_istore_n (by decide)) rfl ?_
          refine zb_go (zg_iconst 1 (by decide)) rfl ?_
          refine zb_go (zg_istore (by decide)) rfl ?_
          refine zb_go (zg_iconst 0 (by decide)) rfl ?_
          refine zb_go (zg_istore (by decide)) rfl ?_
          refine zb_out ?_
          exact lpA 0 (by omega)
        · exact absurd c1 (by decide)
    · refine kX6_odds_0 ?_
      refine zb_go (zg_aload_n rfl) rfl ?_
      refine zb_go (zg_iload_n rfl) rfl ?_
      refine zb_callv (r_X6_isHour hc okp) lX6_137 (by repeat (first | assumption | exact z_up_self _ _ _ | refine (z_up_ne (by first | decide | omega)).trans ?_)) rfl rfl (by first | decide | assumption | omega) (by first | decide | omega) rfl (Nat.le_of_ble_eq_true rfl) rfl ?_
      refine zb_br (zg_if_eq (tgt := 17) (by decide)) rfl (fun c0 => ?_) (fun c0 => ?_)
      · exact bad (fun q => hy q.2)
      · refine zb_go (zg_iload_n rfl) rfl ?_
        refine zb_go (zg_iconst 0 (by decide)) rfl ?_
        refine zb_go (zg_iconst 1 (by decide)) rfl ?_
        refine zb_calls (r_X6_inF hy) lX6_87 rfl (by first | decide | omega) rfl (Nat.le_of_ble_eq_true rfl) rfl ?_
        refine zb_br (zg_if_ne (tgt := 19) (by decide)) rfl (fun c1 => ?_) (fun c1 => ?_)
        · exact absurd rfl c1
        · refine zb_out ?_
          exact bad (fun q => hy q.2)
  · refine kX6_odds_0 ?_
    refine zb_go (zg_aload_n rfl) rfl ?_
    refine zb_go (zg_iload_n rfl) rfl ?_
    refine zb_callv (r_X6_isHour hc okp) lX6_137 (by repeat (first | assumption | exact z_up_self _ _ _ | refine (z_up_ne (by first | decide | omega)).trans ?_)) rfl rfl (by first | decide | assumption | omega) (by first | decide | omega) rfl (Nat.le_of_ble_eq_true rfl) rfl ?_
    refine zb_br (zg_if_eq (tgt := 17) (by decide)) rfl (fun c0 => ?_) (fun c0 => ?_)
    · exact bad (fun q => hx q.1)
    · exact absurd (show 0 ≤ x ∧ x < nI (pH (gP G)) from zb_n.mp c0) hx
end
