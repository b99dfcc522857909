/-! THE MODEL (5): moves, heard, forget, images, mark, text -/
theorem mRel.cell {h : zH} {G : zS} {tr : Int64} {ty : Int32} {X : zX} (hM : mRel h G) (e : h 34 = mObj tr ty X) (tr' : Int64) (X' : zX) : mRel (z_up h 34 (mObj tr' ty X')) (wTr G tr') := by
  obtain ⟨X0, f0, kf, h1, ⟨tx, hx, ht⟩, hP, h46, hN, h47, hkf, hI, hR⟩ := hM
  have e2 : ty = nI (gLen G) := by
    have e3 := e.symm.trans h1
    obtain ⟨at_, st, so, va, fa, to, mo, wa, fe, ev⟩ := X
    obtain ⟨at_2, st2, so2, va2, fa2, to2, mo2, wa2, fe2, ev2⟩ := X0
    simp only [mObj, Sum.inr.injEq, Prod.mk.injEq, List.cons.injEq, Value.int.injEq, true_and] at e3
    exact e3.2.1
  subst e2
  have s : zSame 34 34 h (z_up h 34 (mObj tr' (nI (gLen G)) X')) := zSame.rf.up (by omega) (by omega)
  refine ⟨X', f0, kf, z_up_self _ _ _, ⟨tx, (s 35 (by omega)).trans hx, ht⟩, hP.same s (by omega), (s 46 (by omega)).trans h46, hN, (s 47 (by omega)).trans h47, hkf, hI, hR.same s (by omega)⟩
/-- another text -/
theorem mRel.text {h h1 : zH} {G : zS} {len : Nat} {F tx : Nat → Int32} {X : zX} (hM : mRel h G) (s : zSame 34 35 h h1) (h34 : h1 34 = mObj (gTr G) (nI len) X) (h35 : h1 35 = .inl (1, 200, .inl tx)) (ht : ∀ i, i < len → tx i = F i ∧ isByte (F i)) : mRel h1 (wTx G len F) := by
  obtain ⟨X0, f0, kf, -, -, hP, h46, hN, h47, hkf, hI, hR⟩ := hM
  exact ⟨X, f0, kf, h34, ⟨tx, h35, ht⟩, hP.same s (by omega), (s 46 (by omega)).trans h46, hN, (s 47 (by omega)).trans h47, hkf, hI, hR.same s (by omega)⟩
theorem bL_shr (n : Nat) (hn : n < 64) (x : Int64) {i : Nat} (hi : n + i < 64) : bL (x >>> ((nI n).toInt64 &&& 63)) i = bL x (n + i) := by
  unfold bL
  rw [Int64.toBitVec_shiftRight]
  show (x.toBitVec.sshiftRight (((nI n).toInt64 &&& 63).toBitVec.smod 64).toNat).getLsbD i = _
  rw [sL_l n hn, BitVec.getLsbD_sshiftRight]
  simp [hi]
  omega
theorem bL_ushr (n : Nat) (hn : n < 64) (x : Int64) {i : Nat} : bL ((x.toUInt64 >>> ((nI n).toInt64.toUInt64 &&& Int64.toUInt64 63)).toInt64) i = bL x (n + i) := by
  unfold bL
  show (x.toUInt64 >>> ((nI n).toInt64.toUInt64 &&& Int64.toUInt64 63)).toBitVec.getLsbD i = _
  rw [UInt64.toBitVec_shiftRight]
  show (x.toBitVec >>> (((nI n).toInt64.toUInt64 &&& Int64.toUInt64 63).toBitVec % 64).toNat).getLsbD i = _
  rw [sL_u n hn, BitVec.getLsbD_ushiftRight]
theorem b255 : ∀ i, i < 8 → bL 255 i = true := by decide +kernel
/-- the byte that is typed, either way -/
theorem zbyte_eq (v : Int64) {k : Nat} (hk : k < 8) : ((v >>> ((nI (8 * k)).toInt64 &&& 63)) &&& 255).toInt32.toInt8.toInt32 = zbyte v k := by
  unfold zbyte
  congr 1
  refine Int8.toBitVec_inj.mp (BitVec.eq_of_getLsbD_eq fun i hi => ?_)
  rw [Int32.toBitVec_toInt8, Int32.toBitVec_toInt8, Int64.toBitVec_toInt32, Int64.toBitVec_toInt32]
  simp only [BitVec.getLsbD_signExtend]
  have e1 : bL ((v >>> ((nI (8 * k)).toInt64 &&& 63)) &&& 255) i = bL v (8 * k + i) := by
    rw [bL_and, b255 i hi, Bool.and_true, bL_shr _ (by omega) _ (by omega)]
  have e2 := bL_ushr (8 * k) (by omega) v (i := i)
  unfold bL at e1 e2
  rw [e1, e2]
  simp [show i < 32 by omega, show i < 64 by omega]
theorem vp_byte (x : Int32) : vp_nar .byte x.toInt8.toInt32 = x.toInt8.toInt32 := pk_vb x
section
variable {K : zK} {l : Launch} {n p q r g : Nat} {h h1 : zH} {x y z : Int32} {G : zS} {P : zP} {f : Nat → Int32} {T : zT}
theorem r_X6_bitsIn {s : Nat} (hs : s < 64) : zRet K l 0 mX6_bitsIn [.int (nI s)] n h (some (.int (nI (zpop s)))) h := by
  refine zRet.of (by decide) (Nat.le_of_ble_eq_true rfl) (fun Q hQ => ?_)
  have lp : ∀ k, k ≤ 6 → zGo K l 0 mX6_bitsIn 4 [(0, .int (nI s)), (1, .int (nI (zcnt (fun i => s.testBit i) k))), (2, .int (nI k))] [] n h 0 0 Q := by
    refine z_down 6 (fun k hk ih => ?_)
    refine kX6_bitsIn_4 ?_
    refine zb_go (zg_iload_n rfl) rfl ?_
    refine zb_go (zg_bipush 6 (by decide)) rfl ?_
    refine zb_br (zg_icmp_ge (tgt := 24) (by decide)) rfl (fun c => ?_) (fun c => ?_)
    · obtain rfl := z_is_le (by decide) hk c
      refine kX6_bitsIn_24 ?_
      refine zb_go (zg_iload_n rfl) rfl ?_
      refine zb_end (zg_ireturn rfl (by rfl) ?_) rfl
      exact hQ
    · have hk4 := z_not_le (by decide) hk c
      have ih := ih hk4
      refine zb_go (zg_iload_n rfl) rfl ?_
      refine zb_go (zg_iload_n rfl) rfl ?_
      refine zb_go (zg_iload_n rfl) rfl ?_
      refine zb_go zg_ishr rfl ?_
      refine zb_go (zg_iconst 1 (by decide)) rfl ?_
      refine zb_go zg_iand rfl ?_
      refine zb_go zg_iadd rfl ?_
      refine zb_go (zg_istore_n (by decide)) rfl ?_
      refine zb_go (zg_iinc 1 (by decide) rfl (by decide)) rfl ?_
      refine zb_end (zg_goto (tgt := 4) (by decide) ?_) rfl
      rw [z_bit (by omega) (by omega)]
      rcases Bool.eq_false_or_eq_true (s.testBit k) with w | w
      · rw [if_pos w, nI_1, nI_1]
        simp only [zcnt, w, if_true] at ih
        exact ih
      · rw [if_neg (by rw [w]; decide), Int32.add_zero, nI_1]
        simp only [zcnt, w, Bool.false_eq_true, if_false, Nat.add_zero] at ih
        exact ih
  refine kX6_bitsIn_0 ?_
  refine zb_go (zg_iconst 0 (by decide)) rfl ?_
  refine zb_go (zg_istore_n (by decide)) rfl ?_
  refine zb_go (zg_iconst 0 (by decide)) rfl ?_
  refine zb_go (zg_istore_n (by decide)) rfl ?_
  refine zb_out ?_
  exact lp 0 (by omega)
theorem r_X6_moves (hM : mRel h G) (ok : okS G) : zRex K l 1 mX6_moves [.ref 34, .int x] 59 h (fun v h' => v = some (.int (sMoves G x).1) ∧ mRel h' (sMoves G x).2 ∧ zSame 34 58 h h') := by
  refine zRex.of (by decide) (Nat.le_of_ble_eq_true rfl) (fun Q hQ => ?_)
  obtain ⟨⟨at_, st, so, va, fa, to, mo, wa, fe, ev⟩, f, kf, h1, ⟨tx, hx, htx⟩, hP, h46, hN, h47, hkf, hI, hRm⟩ := id hM
  have hc : mCore h (gP G) f := ⟨⟨_, _, _, h1⟩, hP, h46⟩
  have h1 : h 34 = .inr _ := h1
  obtain ⟨⟨f1, a1, b1⟩, ⟨f2, a2, b2⟩, ⟨f3, a3, b3⟩, ⟨f4, a4, b4⟩, ⟨f5, a5, b5⟩, ⟨f6, a6, b6⟩, ⟨f7, a7, b7⟩, ⟨f8, a8⟩, ⟨f9, a9, b9⟩, ⟨f10, a10, b10⟩⟩ := id hP
  have okp := ok.1
  have okt := ok.2.1
  have kH := okp.1
  have kR := okp.2.1
  have i12 : zIx 12 51 12 := zIx.nI (k := 12) (by decide) (by decide)
  have e12 : f 12 = nI (gT G).2.1 := hN.2.1
  by_cases hx : 0 ≤ x ∧ x ≤ 60
  · rw [sMoves, zite_t hx] at hQ
    obtain ⟨w, hw, rfl⟩ := z_le60 hx
    rw [nI_clamp (by omega)] at hQ
    refine kX6_moves_0 ?_
    refine zb_go (zg_iload_n rfl) rfl ?_
    refine zb_go (zg_iconst 0 (by decide)) rfl ?_
    refine zb_go (zg_bipush 60 (by decide)) rfl ?_
    refine zb_calls (r_X6_inT hx) lX6_87 rfl (by first | decide | omega) rfl (Nat.le_of_ble_eq_true rfl) rfl ?_
    refine zb_br (zg_if_ne (tgt := 12) (by decide)) rfl (fun c => ?_) (fun c => ?_)
    · refine kX6_moves_12 ?_
      refine zb_go (zg_aload_n rfl) rfl ?_
      refine zb_go (zg_getfield fX6_44 (by first | decide | assumption | omega) (by repeat (first | assumption | exact z_up_self _ _ _ | refine (z_up_ne (by first | decide | omega)).trans ?_)) (by rfl)) rfl ?_
      refine zb_go (zg_bipush 12 (by decide)) rfl ?_
      refine zb_go (zi_iaload (by first | decide | assumption | omega) (by repeat (first | assumption | exact z_up_self _ _ _ | refine (z_up_ne (by first | decide | omega)).trans ?_)) i12) rfl ?_
      refine zb_go (zg_istore_n (by decide)) rfl ?_
      refine zb_go (zg_aload_n rfl) rfl ?_
      refine zb_go (zg_getfield fX6_44 (by first | decide | assumption | omega) (by repeat (first | assumption | exact z_up_self _ _ _ | refine (z_up_ne (by first | decide | omega)).trans ?_)) (by rfl)) rfl ?_
      refine zb_go (zg_bipush 12 (by decide)) rfl ?_
      refine zb_go (zg_iload_n rfl) rfl ?_
      refine zb_go (zi_iastore (by first | decide | assumption | omega) (by repeat (first | assumption | exact z_up_self _ _ _ | refine (z_up_ne (by first | decide | omega)).trans ?_)) i12) rfl ?_
      refine zb_go (zg_iload_n rfl) rfl ?_
      refine zb_end (zg_ireturn rfl (by rfl) ?_) rfl
      rw [e12]
      refine hQ _ _ ⟨rfl, hM.now h46 (T := tPlace (gT G) w) ?_ (fun j hj => pk_un (by omega)), zSame.rf.up (by omega) (by omega)⟩
      refine ⟨fun k b hk hb => ?_, pk_us, fun k hk => ?_⟩
      · rw [pk_un (by omega)]; exact hN.1 k b hk hb
      · rw [pk_un (by omega)]; exact hN.2.2 k hk
    · exact absurd c (by decide)
  · rw [sMoves, zite_f hx] at hQ
    refine kX6_moves_0 ?_
    refine zb_go (zg_iload_n rfl) rfl ?_
    refine zb_go (zg_iconst 0 (by decide)) rfl ?_
    refine zb_go (zg_bipush 60 (by decide)) rfl ?_
    refine zb_calls (r_X6_inF hx) lX6_87 rfl (by first | decide | omega) rfl (Nat.le_of_ble_eq_true rfl) rfl ?_
    refine zb_br (zg_if_ne (tgt := 12) (by decide)) rfl (fun c => ?_) (fun c => ?_)
    · exact absurd rfl c
    · refine zb_go (zg_iconst (-1) (by decide)) rfl ?_
      refine zb_end (zg_ireturn rfl (by rfl) ?_) rfl
      exact hQ _ _ ⟨rfl, hM, zSame.rf⟩
theorem r_X6_heard (hM : mRel h G) (ok : okS G) : zRex K l 2 mX6_heard [.ref 34, .int x, .int y] 59 h (fun v h' => v = some (.int (sHeard G x y).1) ∧ mRel h' (sHeard G x y).2 ∧ zSame 34 58 h h') := by
  refine zRex.of (by decide) (Nat.le_of_ble_eq_true rfl) (fun Q hQ => ?_)
  obtain ⟨⟨at_, st, so, va, fa, to, mo, wa, fe, ev⟩, f, kf, h1, ⟨tx, hx, htx⟩, hP, h46, hN, h47, hkf, hI, hRm⟩ := id hM
  have hc : mCore h (gP G) f := ⟨⟨_, _, _, h1⟩, hP, h46⟩
  have h1 : h 34 = .inr _ := h1
  obtain ⟨⟨f1, a1, b1⟩, ⟨f2, a2, b2⟩, ⟨f3, a3, b3⟩, ⟨f4, a4, b4⟩, ⟨f5, a5, b5⟩, ⟨f6, a6, b6⟩, ⟨f7, a7, b7⟩, ⟨f8, a8⟩, ⟨f9, a9, b9⟩, ⟨f10, a10, b10⟩⟩ := id hP
  have okp := ok.1
  have okt := ok.2.1
  have kH := okp.1
  have kR := okp.2.1
  have bad : ¬ (iH G x ∧ 0 ≤ y ∧ y ≤ 3) → zGo K l 2 mX6_heard 17 (lv_args 0 [.ref 34, .int x, .int y]) [] 59 h 0 0 Q := by
    intro hn
    refine kX6_heard_17 ?_
    refine zb_go (zg_iconst (-1) (by decide)) rfl ?_
    refine zb_end (zg_ireturn rfl (by rfl) ?_) rfl
    rw [sHeard, zite_f hn] at hQ
    exact hQ _ _ ⟨rfl, hM, zSame.rf⟩
  refine kX6_heard_0 ?_
  refine zb_go (zg_aload_n rfl) rfl ?_
  refine zb_go (zg_iload_n rfl) rfl ?_
  refine zb_callv (r_X6_isHour hc okp) lX6_137 (by repeat (first | assumption | exact z_up_self _ _ _ | refine (z_up_ne (by first | decide | omega)).trans ?_)) rfl rfl (by first | decide | assumption | omega) (by first | decide | omega) rfl (Nat.le_of_ble_eq_true rfl) rfl ?_
  refine zb_br (zg_if_eq (tgt := 17) (by decide)) rfl (fun c0 => ?_) (fun c0 => ?_)
  · exact bad (fun q => zb_0.mp c0 q.1)
  · have c0 := zb_n.mp c0
    by_cases hy : 0 ≤ y ∧ y ≤ 3
    · refine zb_go (zg_iload_n rfl) rfl ?_
      refine zb_go (zg_iconst 0 (by decide)) rfl ?_
      refine zb_go (zg_iconst 3 (by decide)) rfl ?_
      refine zb_calls (r_X6_inT hy) lX6_87 rfl (by first | decide | omega) rfl (Nat.le_of_ble_eq_true rfl) rfl ?_
      refine zb_br (zg_if_ne (tgt := 19) (by decide)) rfl (fun c1 => ?_) (fun c1 => ?_)
      · rw [sHeard, zite_t ⟨c0, hy⟩] at hQ
        obtain ⟨g, hg, rfl⟩ := z_isIx (by omega) c0
        obtain ⟨s, hs, rfl⟩ := z_leN (N := 3) (by decide) hy
        rw [nI_clamp (by omega), nI_clamp (by omega), ← hN.heard (by omega)] at hQ
        have i13 := z_ix13 (show g < 4 by omega)
        refine kX6_heard_19 ?_
        refine zb_go (zg_aload_n rfl) rfl ?_
        refine zb_go (zg_getfield fX6_44 (by first | decide | assumption | omega) (by repeat (first | assumption | exact z_up_self _ _ _ | refine (z_up_ne (by first | decide | omega)).trans ?_)) (by rfl)) rfl ?_
        refine zb_go (zg_bipush 13 (by decide)) rfl ?_
        refine zb_go (zg_iload_n rfl) rfl ?_
        refine zb_go zg_iadd rfl ?_
        refine zb_go (zi_iaload (by first | decide | assumption | omega) (by repeat (first | assumption | exact z_up_self _ _ _ | refine (z_up_ne (by first | decide | omega)).trans ?_)) i13) rfl ?_
        refine zb_go (zg_istore_n (by decide)) rfl ?_
        refine zb_go (zg_aload_n rfl) rfl ?_
        refine zb_go (zg_getfield fX6_44 (by first | decide | assumption | omega) (by repeat (first | assumption | exact z_up_self _ _ _ | refine (z_up_ne (by first | decide | omega)).trans ?_)) (by rfl)) rfl ?_
        refine zb_go (zg_bipush 13 (by decide)) rfl ?_
        refine zb_go (zg_iload_n rfl) rfl ?_
        refine zb_go zg_iadd rfl ?_
        refine zb_go (zg_iload_n rfl) rfl ?_
        refine zb_go (zi_iastore (by first | decide | assumption | omega) (by repeat (first | assumption | exact z_up_self _ _ _ | refine (z_up_ne (by first | decide | omega)).trans ?_)) i13) rfl ?_
        refine zb_go (zg_iload_n rfl) rfl ?_
        refine zb_end (zg_ireturn rfl (by rfl) ?_) rfl
        refine hQ _ _ ⟨rfl, hM.now h46 (T := tHear (gT G) g (s + 1)) ?_ (fun j hj => pk_un (by omega)), zSame.rf.up (by omega) (by omega)⟩
        refine ⟨fun k b hk hb => ?_, ?_, fun k hk => ?_⟩
        · rw [pk_un (by omega)]; exact hN.1 k b hk hb
        · rw [pk_un (by omega)]; exact hN.2.1
        · show upd f (13 + g) (nI s) (0 + 13 + k) = if zupd (gT G).2.2 g (s + 1) k = 0 then -9 else nI (zupd (gT G).2.2 g (s + 1) k - 1)
          by_cases w : k = g
          · subst w
            rw [show 0 + 13 + k = 13 + k by omega, pk_us]
            simp only [zupd, if_pos]
            rw [if_neg (by omega), Nat.add_sub_cancel]
          · rw [pk_un (by omega)]
            simp only [zupd, if_neg w]
            exact hN.2.2 k hk
      · exact absurd c1 (by decide)
    · refine zb_go (zg_iload_n rfl) rfl ?_
      refine zb_go (zg_iconst 0 (by decide)) rfl ?_
      refine zb_go (zg_iconst 3 (by decide)) rfl ?_
      refine zb_calls (r_X6_inF hy) lX6_87 rfl (by first | decide | omega) rfl (Nat.le_of_ble_eq_true rfl) rfl ?_
      refine zb_br (zg_if_ne (tgt := 19) (by decide)) rfl (fun c1 => ?_) (fun c1 => ?_)
      · exact absurd rfl c1
      · refine zb_out ?_
        exact bad (fun q => hy q.2)
theorem r_X6_forget (hM : mRel h G) (ok : okS G) : zRex K l 0 mX6_forget [.ref 34] 59 h (fun v h' => v = some (.int (sForget G).1) ∧ mRel h' (sForget G).2 ∧ zSame 34 58 h h') := by
  refine zRex.of (by decide) (Nat.le_of_ble_eq_true rfl) (fun Q hQ => ?_)
  obtain ⟨⟨at_, st, so, va, fa, to, mo, wa, fe, ev⟩, f, kf, h1, ⟨tx, hx, htx⟩, hP, h46, hN, h47, hkf, hI, hRm⟩ := id hM
  have hc : mCore h (gP G) f := ⟨⟨_, _, _, h1⟩, hP, h46⟩
  have h1 : h 34 = .inr _ := h1
  obtain ⟨⟨f1, a1, b1⟩, ⟨f2, a2, b2⟩, ⟨f3, a3, b3⟩, ⟨f4, a4, b4⟩, ⟨f5, a5, b5⟩, ⟨f6, a6, b6⟩, ⟨f7, a7, b7⟩, ⟨f8, a8⟩, ⟨f9, a9, b9⟩, ⟨f10, a10, b10⟩⟩ := id hP
  have okp := ok.1
  have okt := ok.2.1
  have kH := okp.1
  have kR := okp.2.1
  have lp : ∀ k, k ≤ 4 → ∀ F, (∀ j, F j = if 13 ≤ j ∧ j < 13 + k then -9 else f j) → zGo K l 0 mX6_forget 4 [(0, .ref 34), (1, .int (nI (zcnt (fun g => decide ((gT G).2.2 g ≠ 0)) k))), (2, .int (nI k))] [] 59 (z_up h 46 (.inl (0, 51, .inl F))) 0 0 Q := by
    refine z_down 4 (fun k hk ih F hF => ?_)
    refine kX6_forget_4 ?_
    refine zb_go (zg_iload_n rfl) rfl ?_
    refine zb_go (zg_iconst 4 (by decide)) rfl ?_
    refine zb_br (zg_icmp_ge (tgt := 48) (by decide)) rfl (fun c => ?_) (fun c => ?_)
    · obtain rfl := z_is_le (by decide) hk c
      refine kX6_forget_48 ?_
      refine zb_go (zg_iload_n rfl) rfl ?_
      refine zb_end (zg_ireturn rfl (by rfl) ?_) rfl
      refine hQ _ _ ⟨rfl, hM.now h46 (T := tDeaf (gT G)) ?_ (fun j hj => by rw [hF, if_neg (by omega)]), zSame.rf.up (by omega) (by omega)⟩
      refine ⟨fun k b hk hb => ?_, ?_, fun k hk => ?_⟩
      · rw [hF, if_neg (by omega)]; exact hN.1 k b hk hb
      · rw [hF, if_neg (by omega)]; exact hN.2.1
      · rw [hF, if_pos (by omega)]; rfl
    · have hk4 := z_not_le (by decide) hk c
      have ih := ih hk4
      have i13 := z_ix13 hk4
      have e : F (13 + k) = heardI (gT G) k := by rw [hF, if_neg (by omega)]; exact hN.heard hk4
      have kT := okt.2.2.2.2.2 k hk4
      have go : ∀ m, m = (if (gT G).2.2 k ≠ 0 then 1 else 0) → zGo K l 0 mX6_forget 29 [(0, .ref 34), (1, .int (nI (zcnt (fun g => decide ((gT G).2.2 g ≠ 0)) k))), (2, .int (nI k))] [.int (nI m), .int (nI (zcnt (fun g => decide ((gT G).2.2 g ≠ 0)) k))] 59 (z_up h 46 (.inl (0, 51, .inl F))) 0 0 Q := by
        intro m hm
        refine kX6_forget_29 ?_
        refine zb_go zg_iadd rfl ?_
        refine zb_go (zg_istore_n (by decide)) rfl ?_
        refine zb_go (zg_aload_n rfl) rfl ?_
        refine zb_go (zg_getfield fX6_44 (by first | decide | assumption | omega) (by repeat (first | assumption | exact z_up_self _ _ _ | refine (z_up_ne (by first | decide | omega)).trans ?_)) (by rfl)) rfl ?_
        refine zb_go (zg_bipush 13 (by decide)) rfl ?_
        refine zb_go (zg_iload_n rfl) rfl ?_
        refine zb_go zg_iadd rfl ?_
        refine zb_go (zg_bipush (-9) (by decide)) rfl ?_
        refine zb_go (zi_iastore (by first | decide | assumption | omega) (by repeat (first | assumption | exact z_up_self _ _ _ | refine (z_up_ne (by first | decide | omega)).trans ?_)) i13) rfl ?_
        refine zb_go (zg_iinc 1 (by decide) rfl (by decide)) rfl ?_
        refine zb_end (zg_goto (tgt := 4) (by decide) ?_) rfl
        rw [z_up_up, nI_add, nI_1]
        have e2 : zcnt (fun g => decide ((gT G).2.2 g ≠ 0)) (k + 1) = zcnt (fun g => decide ((gT G).2.2 g ≠ 0)) k + m := by
          simp only [zcnt, decide_eq_true_eq, hm]
        rw [← e2]
        refine ih _ (fun j => ?_)
        by_cases w : j = 13 + k
        · rw [w, pk_us, if_pos (by omega)]
        · rw [pk_un w, hF]
          by_cases u : 13 ≤ j ∧ j < 13 + k
          · rw [if_pos u, if_pos (by omega)]
          · rw [if_neg u, if_neg (by omega)]
      refine zb_go (zg_iload_n rfl) rfl ?_
      refine zb_go (zg_aload_n rfl) rfl ?_
      refine zb_go (zg_getfield fX6_44 (by first | decide | assumption | omega) (by repeat (first | assumption | exact z_up_self _ _ _ | refine (z_up_ne (by first | decide | omega)).trans ?_)) (by rfl)) rfl ?_
      refine zb_go (zg_bipush 13 (by decide)) rfl ?_
      refine zb_go (zg_iload_n rfl) rfl ?_
      refine zb_go zg_iadd rfl ?_
      refine zb_go (zi_iaload (by first | decide | assumption | omega) (by repeat (first | assumption | exact z_up_self _ _ _ | refine (z_up_ne (by first | decide | omega)).trans ?_)) i13) rfl ?_
      refine zb_go (zg_bipush (-9) (by decide)) rfl ?_
      refine zb_br (zg_icmp_ne (tgt := 28) (by decide)) rfl (fun c0 => ?_) (fun c0 => ?_)
      · rw [e, heardI] at c0
        refine kX6_forget_28 ?_
        refine zb_go (zg_iconst 1 (by decide)) rfl ?_
        refine zb_out ?_
        refine go 1 ?_
        rw [if_pos]
        intro w
        rw [if_pos w] at c0; exact c0 rfl
      · rw [e, heardI] at c0
        refine zb_go (zg_iconst 0 (by decide)) rfl ?_
        refine zb_end (zg_goto (tgt := 29) (by decide) ?_) rfl
        refine go 0 ?_
        rw [if_neg]
        intro w
        rw [if_neg w] at c0
        exact nI_ne9 (by omega) c0
  refine kX6_forget_0 ?_
  refine zb_go (zg_iconst 0 (by decide)) rfl ?_
  refine zb_go (zg_istore_n (by decide)) rfl ?_
  refine zb_go (zg_iconst 0 (by decide)) rfl ?_
  refine zb_go (zg_istore_n (by decide)) rfl ?_
  refine zb_out ?_
  have := lp 0 (by omega) f (fun j => by rw [if_neg (by omega)])
  rw [z_up_id h46] at this
  exact this
theorem r_X6_copy {a b : Nat} (hc : mCore h P f) (ha : a + 17 ≤ 51) (hb : b + 17 ≤ 51) (hab : a + 17 ≤ b ∨ b + 17 ≤ a) : zRex K l 0 mX6_copy [.ref 34, .int (nI a), .int (nI b)] 59 h (fun v h' => v = none ∧ ∃ F, h' = z_up h 46 (.inl (0, 51, .inl F)) ∧ (∀ j, j < 17 → F (b + j) = f (a + j)) ∧ ∀ j, (j < b ∨ b + 17 ≤ j) → F j = f j) := by
  refine zRex.of (by decide) (Nat.le_of_ble_eq_true rfl) (fun Q hQ => ?_)
  obtain ⟨⟨tr, ty, ⟨at_, st, so, va, fa, to, mo, wa, fe, ev⟩, h1⟩, hP, h46⟩ := hc
  have h1 : h 34 = .inr _ := h1
  have lp : ∀ k, k ≤ 17 → ∀ F, (∀ j, j < k → F (b + j) = f (a + j)) → (∀ j, (j < b ∨ b + k ≤ j) → F j = f j) → zGo K l 0 mX6_copy 2 [(0, .ref 34), (1, .int (nI a)), (2, .int (nI b)), (3, .int (nI k))] [] 59 (z_up h 46 (.inl (0, 51, .inl F))) 0 0 Q := by
    refine z_down 17 (fun k hk ih F e1 e2 => ?_)
    refine kX6_copy_2 ?_
    refine zb_go (zg_iload_n rfl) rfl ?_
    refine zb_go (zg_bipush 17 (by decide)) rfl ?_
    refine zb_br (zg_icmp_ge (tgt := 30) (by decide)) rfl (fun c => ?_) (fun c => ?_)
    · obtain rfl := z_is_le (by decide) hk c
      refine kX6_copy_30 ?_
      refine zb_end (zg_return rfl ?_) rfl
      exact hQ _ _ ⟨rfl, F, rfl, e1, e2⟩
    · have hk4 := z_not_le (by decide) hk c
      have ia : zIx (nI a + nI k) 51 (a + k) := by rw [nI_add]; exact zIx.nI (by omega) (by decide)
      have ib : zIx (nI b + nI k) 51 (b + k) := by rw [nI_add]; exact zIx.nI (by omega) (by decide)
      refine zb_go (zg_aload_n rfl) rfl ?_
      refine zb_go (zg_getfield fX6_44 (by first | decide | assumption | omega) (by repeat (first | assumption | exact z_up_self _ _ _ | refine (z_up_ne (by first | decide | omega)).trans ?_)) (by rfl)) rfl ?_
      refine zb_go (zg_iload_n rfl) rfl ?_
      refine zb_go (zg_iload_n rfl) rfl ?_
      refine zb_go zg_iadd rfl ?_
      refine zb_go (zg_aload_n rfl) rfl ?_
      refine zb_go (zg_getfield fX6_44 (by first | decide | assumption | omega) (by repeat (first | assumption | exact z_up_self _ _ _ | refine (z_up_ne (by first | decide | omega)).trans ?_)) (by rfl)) rfl ?_
      refine zb_go (zg_iload_n rfl) rfl ?_
      refine zb_go (zg_iload_n rfl) rfl ?_
      refine zb_go zg_iadd rfl ?_
      refine zb_go (zi_iaload (by first | decide | assumption | omega) (by repeat (first | assumption | exact z_up_self _ _ _ | refine (z_up_ne (by first | decide | omega)).trans ?_)) ia) rfl ?_
      refine zb_go (zi_iastore (by first | decide | assumption | omega) (by repeat (first | assumption | exact z_up_self _ _ _ | refine (z_up_ne (by first | decide | omega)).trans ?_)) ib) rfl ?_
      refine zb_go (zg_iinc 1 (by decide) rfl (by decide)) rfl ?_
      refine zb_end (zg_goto (tgt := 2) (by decide) ?_) rfl
      rw [z_up_up, nI_1]
      refine ih hk4 _ (fun j hj => ?_) (fun j hj => ?_)
      · by_cases w : j = k
        · rw [w, pk_us]; exact e2 _ (by omega)
        · rw [pk_un (by omega)]; exact e1 j (by omega)
      · rw [pk_un (by omega)]; exact e2 j (by omega)
  refine kX6_copy_0 ?_
  refine zb_go (zg_iconst 0 (by decide)) rfl ?_
  refine zb_go (zg_istore_n (by decide)) rfl ?_
  refine zb_out ?_
  have := lp 0 (by omega) f (fun j hj => by omega) (fun j _ => rfl)
  rw [z_up_id h46] at this
  exact this
theorem z_lt2 : (0 ≤ x ∧ x < 2) ↔ (0 ≤ x ∧ x ≤ 1) := (z_le1 (N := 2) (by decide)).symm
theorem r_X6_keep (hM : mRel h G) (ok : okS G) : zRex K l 2 mX6_keep [.ref 34, .int x] 59 h (fun v h' => v = some (.int (sKeep G x).1) ∧ mRel h' (sKeep G x).2 ∧ zSame 34 58 h h') := by
  refine zRex.of (by decide) (Nat.le_of_ble_eq_true rfl) (fun Q hQ => ?_)
  obtain ⟨⟨at_, st, so, va, fa, to, mo, wa, fe, ev⟩, f, kf, h1, ⟨tx, hx, htx⟩, hP, h46, hN, h47, hkf, hI, hRm⟩ := id hM
  have hc : mCore h (gP G) f := ⟨⟨_, _, _, h1⟩, hP, h46⟩
  have h1 : h 34 = .inr _ := h1
  obtain ⟨⟨f1, a1, b1⟩, ⟨f2, a2, b2⟩, ⟨f3, a3, b3⟩, ⟨f4, a4, b4⟩, ⟨f5, a5, b5⟩, ⟨f6, a6, b6⟩, ⟨f7, a7, b7⟩, ⟨f8, a8⟩, ⟨f9, a9, b9⟩, ⟨f10, a10, b10⟩⟩ := id hP
  have okp := ok.1
  have okt := ok.2.1
  have kH := okp.1
  have kR := okp.2.1
  have hX := hx
  by_cases hx : 0 ≤ x ∧ x ≤ 1
  · rw [sKeep, zite_t (z_lt2.mpr hx)] at hQ
    obtain ⟨i, hi, rfl⟩ := z_leN (N := 1) (by decide) hx
    rw [nI_clamp (by omega)] at hQ
    refine kX6_keep_0 ?_
    refine zb_go (zg_iload_n rfl) rfl ?_
    refine zb_go (zg_iconst 0 (by decide)) rfl ?_
    refine zb_go (zg_iconst 1 (by decide)) rfl ?_
    refine zb_calls (r_X6_inT hx) lX6_87 rfl (by first | decide | omega) rfl (Nat.le_of_ble_eq_true rfl) rfl ?_
    refine zb_br (zg_if_ne (tgt := 11) (by decide)) rfl (fun c => ?_) (fun c => ?_)
    · refine kX6_keep_11 ?_
      refine zb_go (zg_aload_n rfl) rfl ?_
      refine zb_go (zg_iconst 0 (by decide)) rfl ?_
      refine zb_go (zg_bipush 17 (by decide)) rfl ?_
      refine zb_go (zg_iconst 1 (by decide)) rfl ?_
      refine zb_go (zg_iload_n rfl) rfl ?_
      refine zb_go zg_iadd rfl ?_
      refine zb_go zg_imul rfl ?_
      have e17 : (17 : Int32) * (1 + nI i) = nI (17 * (1 + i)) := by
        rw [show (1 : Int32) = nI 1 from rfl, nI_add, show (17 : Int32) = nI 17 from rfl, pk_mul]
      rw [e17]
      refine zb_callvx (r_X6_copy (a := 0) (b := 17 * (1 + i)) hc (by omega) (by omega) (by omega)) lX6_248 (by repeat (first | assumption | exact z_up_self _ _ _ | refine (z_up_ne (by first | decide | omega)).trans ?_)) rfl rfl (by first | decide | assumption | omega) (by first | decide | omega) rfl (Nat.le_of_ble_eq_true rfl) rfl ?_
      rintro v h2 ⟨rfl, F, rfl, e1, e2⟩
      have hF : ∀ j, j < 17 → F j = f j := fun j hj => e2 j (by omega)
      have h1' : z_up h 46 (.inl (0, 51, .inl F)) 34 = _ := (z_up_ne (by decide)).trans h1
      have h47' : z_up h 46 (.inl (0, 51, .inl F)) 47 = _ := (z_up_ne (by decide)).trans h47
      have hc2 : mCore (z_up (z_up h 46 (.inl (0, 51, .inl F))) 47 (.inl (3, 2, .inl (upd kf i 1)))) (gP G) F := (hc.up F).same (lo := 47) (hi := 47) (zSame.rf.up (by omega) (by omega)) (by omega)
      have hN2 : mNow F 0 (gT G) := hN.congr (fun j hj => by rw [Nat.zero_add]; exact hF j hj)
      have h1'' : z_up (z_up h 46 (.inl (0, 51, .inl F))) 47 (.inl (3, 2, .inl (upd kf i 1))) 34 = _ := (z_up_ne (by decide)).trans h1'
      refine zb_go (zg_aload_n rfl) rfl ?_
      refine zb_go (zg_getfield fX6_47 (by first | decide | assumption | omega) (by repeat (first | assumption | exact z_up_self _ _ _ | refine (z_up_ne (by first | decide | omega)).trans ?_)) (by rfl)) rfl ?_
      refine zb_go (zg_iload_n rfl) rfl ?_
      refine zb_go (zg_iconst 1 (by decide)) rfl ?_
      refine zb_go (zi_zastore (y := 1) (by first | decide | assumption | omega) (by repeat (first | assumption | exact z_up_self _ _ _ | refine (z_up_ne (by first | decide | omega)).trans ?_)) (zIx.nI (by omega) (by decide)) (by decide)) rfl ?_
      refine zb_go (zg_aload_n rfl) rfl ?_
      refine zb_callv (r_X6_allInRota hc2 okp) lX6_166 (by repeat (first | assumption | exact z_up_self _ _ _ | refine (z_up_ne (by first | decide | omega)).trans ?_)) rfl rfl (by first | decide | assumption | omega) (by first | decide | omega) rfl (Nat.le_of_ble_eq_true rfl) rfl ?_
      refine zb_end (zg_ireturn rfl (by rfl) ?_) rfl
      rw [hN2.all okp okt]
      have s : zSame 46 47 h (z_up (z_up h 46 (.inl (0, 51, .inl F))) 47 (.inl (3, 2, .inl (upd kf i 1)))) := (zSame.rf.up (by omega) (by omega)).up (by omega) (by omega)
      refine hQ _ _ ⟨rfl, ?_, s.wide (by omega) (by omega)⟩
      refine ⟨(at_, st, so, va, fa, to, mo, wa, fe, ev), F, upd kf i 1, h1'', ⟨tx, (s 35 (by omega)).trans hX, htx⟩, hP.same s (by omega), (z_up_ne (by decide)).trans (z_up_self _ _ _), hN2, z_up_self _ _ _, fun j hj => ?_, fun j hj hkj => ?_, hRm.same s (by omega)⟩
      · show upd kf i 1 j = if bupd (gK G) i j then 1 else 0
        by_cases w : j = i
        · rw [w, pk_us]; simp [bupd]
        · rw [pk_un w, hkf j hj]; simp [bupd, w]
      · show mNow F (17 * (1 + j)) (tupd (gI G) i (gT G) j)
        have hkj : bupd (gK G) i j = true := hkj
        by_cases w : j = i
        · simp only [tupd, if_pos w]
          rw [w]
          exact hN.congr (fun m hm => e1 m hm)
        · simp only [tupd, if_neg w]
          simp only [bupd, if_neg w] at hkj
          refine (hI j hj hkj).congr (fun m hm => e2 _ ?_)
          omega
    · exact absurd c (by decide)
  · rw [sKeep, zite_f (fun q => hx (z_lt2.mp q))] at hQ
    refine kX6_keep_0 ?_
    refine zb_go (zg_iload_n rfl) rfl ?_
    refine zb_go (zg_iconst 0 (by decide)) rfl ?_
    refine zb_go (zg_iconst 1 (by decide)) rfl ?_
    refine zb_calls (r_X6_inF hx) lX6_87 rfl (by first | decide | omega) rfl (Nat.le_of_ble_eq_true rfl) rfl ?_
    refine zb_br (zg_if_ne (tgt := 11) (by decide)) rfl (fun c => ?_) (fun c => ?_)
    · exact absurd rfl c
    · refine zb_go (zg_iconst (-1) (by decide)) rfl ?_
      refine zb_end (zg_ireturn rfl (by rfl) ?_) rfl
      exact hQ _ _ ⟨rfl, hM, zSame.rf⟩
theorem r_X6_back (hM : mRel h G) (ok : okS G) : zRex K l 2 mX6_back [.ref 34, .int x] 59 h (fun v h' => v = some (.int (sBack G x).1) ∧ mRel h' (sBack G x).2 ∧ zSame 34 58 h h') := by
  refine zRex.of (by decide) (Nat.le_of_ble_eq_true rfl) (fun Q hQ => ?_)
  obtain ⟨⟨at_, st, so, va, fa, to, mo, wa, fe, ev⟩, f, kf, h1, ⟨tx, hx, htx⟩, hP, h46, hN, h47, hkf, hI, hRm⟩ := id hM
  have hc : mCore h (gP G) f := ⟨⟨_, _, _, h1⟩, hP, h46⟩
  have h1 : h 34 = .inr _ := h1
  obtain ⟨⟨f1, a1, b1⟩, ⟨f2, a2, b2⟩, ⟨f3, a3, b3⟩, ⟨f4, a4, b4⟩, ⟨f5, a5, b5⟩, ⟨f6, a6, b6⟩, ⟨f7, a7, b7⟩, ⟨f8, a8⟩, ⟨f9, a9, b9⟩, ⟨f10, a10, b10⟩⟩ := id hP
  have okp := ok.1
  have okt := ok.2.1
  have kH := okp.1
  have kR := okp.2.1
  by_cases hx : 0 ≤ x ∧ x ≤ 1
  · rw [sBack, zite_t (z_lt2.mpr hx)] at hQ
    obtain ⟨i, hi, rfl⟩ := z_leN (N := 1) (by decide) hx
    rw [nI_clamp (by omega)] at hQ
    have ek := hkf i (by omega)
    refine kX6_back_0 ?_
    refine zb_go (zg_iload_n rfl) rfl ?_
    refine zb_go (zg_iconst 0 (by decide)) rfl ?_
    refine zb_go (zg_iconst 1 (by decide)) rfl ?_
    refine zb_calls (r_X6_inT hx) lX6_87 rfl (by first | decide | omega) rfl (Nat.le_of_ble_eq_true rfl) rfl ?_
    refine zb_br (zg_if_ne (tgt := 11) (by decide)) rfl (fun c => ?_) (fun c => ?_)
    · refine kX6_back_11 ?_
      refine zb_go (zg_aload_n rfl) rfl ?_
      refine zb_go (zg_getfield fX6_47 (by first | decide | assumption | omega) (by repeat (first | assumption | exact z_up_self _ _ _ | refine (z_up_ne (by first | decide | omega)).trans ?_)) (by rfl)) rfl ?_
      refine zb_go (zg_iload_n rfl) rfl ?_
      refine zb_go (zi_zaload (by first | decide | assumption | omega) (by repeat (first | assumption | exact z_up_self _ _ _ | refine (z_up_ne (by first | decide | omega)).trans ?_)) (zIx.nI (by omega) (by decide))) rfl ?_
      refine zb_br (zg_if_ne (tgt := 23) (by decide)) rfl (fun c0 => ?_) (fun c0 => ?_)
      · rw [ek] at c0
        have ki : gK G i = true := by
          rcases Bool.eq_false_or_eq_true (gK G i) with w | w
          · exact w
          · rw [w] at c0; exact absurd rfl c0
        rw [if_pos ki] at hQ
        refine kX6_back_23 ?_
        refine zb_go (zg_aload_n rfl) rfl ?_
        refine zb_go (zg_bipush 17 (by decide)) rfl ?_
        refine zb_go (zg_iconst 1 (by decide)) rfl ?_
        refine zb_go (zg_iload_n rfl) rfl ?_
        refine zb_go zg_iadd rfl ?_
        refine zb_go zg_imul rfl ?_
        refine zb_go (zg_iconst 0 (by decide)) rfl ?_
        have e17 : (17 : Int32) * (1 + nI i) = nI (17 * (1 + i)) := by
          rw [show (1 : Int32) = nI 1 from rfl, nI_add, show (17 : Int32) = nI 17 from rfl, pk_mul]
        rw [e17]
        refine zb_callvx (r_X6_copy (a := 17 * (1 + i)) (b := 0) hc (by omega) (by omega) (by omega)) lX6_248 (by repeat (first | assumption | exact z_up_self _ _ _ | refine (z_up_ne (by first | decide | omega)).trans ?_)) rfl rfl (by first | decide | assumption | omega) (by first | decide | omega) rfl (Nat.le_of_ble_eq_true rfl) rfl ?_
        rintro v h2 ⟨rfl, F, rfl, e1, e2⟩
        have hN2 : mNow F 0 (gI G i) := (hI i (by omega) ki).congr (fun m hm => e1 m hm)
        have h1' : z_up h 46 (.inl (0, 51, .inl F)) 34 = _ := (z_up_ne (by decide)).trans h1
        have okt2 := ok.2.2.1 i (by omega) ki
        refine zb_go (zg_aload_n rfl) rfl ?_
        refine zb_callv (r_X6_allInRota (hc.up F) okp) lX6_166 (by repeat (first | assumption | exact z_up_self _ _ _ | refine (z_up_ne (by first | decide | omega)).trans ?_)) rfl rfl (by first | decide | assumption | omega) (by first | decide | omega) rfl (Nat.le_of_ble_eq_true rfl) rfl ?_
        refine zb_end (zg_ireturn rfl (by rfl) ?_) rfl
        rw [hN2.all okp okt2]
        exact hQ _ _ ⟨rfl, hM.now h46 hN2 (fun j hj => e2 j (by omega)), zSame.rf.up (by omega) (by omega)⟩
      · rw [ek] at c0
        have ki : gK G i = false := by
          rcases Bool.eq_false_or_eq_true (gK G i) with w | w
          · rw [w] at c0; exact absurd c0 (by decide)
          · exact w
        rw [if_neg (by rw [ki]; decide)] at hQ
        refine zb_go (zg_bipush (-2) (by decide)) rfl ?_
        refine zb_end (zg_ireturn rfl (by rfl) ?_) rfl
        exact hQ _ _ ⟨rfl, hM, zSame.rf⟩
    · exact absurd c (by decide)
  · rw [sBack, zite_f (fun q => hx (z_lt2.mp q))] at hQ
    refine kX6_back_0 ?_
    refine zb_go (zg_iload_n rfl) rfl ?_
    refine zb_go (zg_iconst 0 (by decide)) rfl ?_
    refine zb_go (zg_iconst 1 (by decide)) rfl ?_
    refine zb_calls (r_X6_inF hx) lX6_87 rfl (by first | decide | omega) rfl (Nat.le_of_ble_eq_true rfl) rfl ?_
    refine zb_br (zg_if_ne (tgt := 11) (by decide)) rfl (fun c => ?_) (fun c => ?_)
    · exact absurd rfl c
    · refine zb_go (zg_iconst (-1) (by decide)) rfl ?_
      refine zb_end (zg_ireturn rfl (by rfl) ?_) rfl
      exact hQ _ _ ⟨rfl, hM, zSame.rf⟩
theorem r_X6_clear (hM : mRel h G) (ok : okS G) : zRex K l 0 mX6_clear [.ref 34] 59 h (fun v h' => v = some (.int (sClear G).1) ∧ mRel h' (sClear G).2 ∧ zSame 34 58 h h') := by
  refine zRex.of (by decide) (Nat.le_of_ble_eq_true rfl) (fun Q hQ => ?_)
  obtain ⟨⟨at_, st, so, va, fa, to, mo, wa, fe, ev⟩, f, kf, h1, ⟨tx, hx, htx⟩, hP, h46, hN, h47, hkf, hI, hRm⟩ := id hM
  have hc : mCore h (gP G) f := ⟨⟨_, _, _, h1⟩, hP, h46⟩
  have h1 : h 34 = .inr _ := h1
  obtain ⟨⟨f1, a1, b1⟩, ⟨f2, a2, b2⟩, ⟨f3, a3, b3⟩, ⟨f4, a4, b4⟩, ⟨f5, a5, b5⟩, ⟨f6, a6, b6⟩, ⟨f7, a7, b7⟩, ⟨f8, a8⟩, ⟨f9, a9, b9⟩, ⟨f10, a10, b10⟩⟩ := id hP
  have okp := ok.1
  have okt := ok.2.1
  have kH := okp.1
  have kR := okp.2.1
  refine kX6_clear_0 ?_
  refine zb_go (zg_aload_n rfl) rfl ?_
  refine zb_go (zg_getfield fX6_91 (by first | decide | assumption | omega) (by repeat (first | assumption | exact z_up_self _ _ _ | refine (z_up_ne (by first | decide | omega)).trans ?_)) (by rfl)) rfl ?_
  refine zb_go (zg_istore_n (by decide)) rfl ?_
  refine zb_go (zg_aload_n rfl) rfl ?_
  refine zb_go (zg_iconst 0 (by decide)) rfl ?_
  refine zb_go (zg_putfield fX6_91 (by first | decide | assumption | omega) (by repeat (first | assumption | exact z_up_self _ _ _ | refine (z_up_ne (by first | decide | omega)).trans ?_)) (by exact Nat.le_of_ble_eq_true rfl) (by rfl) (by rfl) (by first | exact Or.inl rfl | exact Or.inr ⟨rfl, rfl⟩)) rfl ?_
  refine zb_go (zg_iload_n rfl) rfl ?_
  refine zb_end (zg_ireturn rfl (by rfl) ?_) rfl
  refine hQ _ _ ⟨rfl, ?_, zSame.rf.up (by omega) (by omega)⟩
  exact hM.text (len := 0) (F := gTx G) (X := (at_, st, so, va, fa, to, mo, wa, fe, ev)) (zSame.rf.up (by omega) (by omega)) (z_up_self _ _ _) ((z_up_ne (by decide)).trans hx) (fun i hi => by omega)
theorem r_X6_type {v : Int64} (hM : mRel h G) (ok : okS G) : zRex K l 1 mX6_type [.ref 34, .long v, .int x] 59 h (fun w h' => w = some (.int (sType G v x).1) ∧ mRel h' (sType G v x).2 ∧ zSame 34 58 h h') := by
  refine zRex.of (by decide) (Nat.le_of_ble_eq_true rfl) (fun Q hQ => ?_)
  obtain ⟨⟨at_, st, so, va, fa, to, mo, wa, fe, ev⟩, f, kf, h1, ⟨tx, hx, htx⟩, hP, h46, hN, h47, hkf, hI, hRm⟩ := id hM
  have hc : mCore h (gP G) f := ⟨⟨_, _, _, h1⟩, hP, h46⟩
  have h1 : h 34 = .inr _ := h1
  obtain ⟨⟨f1, a1, b1⟩, ⟨f2, a2, b2⟩, ⟨f3, a3, b3⟩, ⟨f4, a4, b4⟩, ⟨f5, a5, b5⟩, ⟨f6, a6, b6⟩, ⟨f7, a7, b7⟩, ⟨f8, a8⟩, ⟨f9, a9, b9⟩, ⟨f10, a10, b10⟩⟩ := id hP
  have okp := ok.1
  have okt := ok.2.1
  have kH := okp.1
  have kR := okp.2.1
  have kl := ok.2.2.2
  unfold sType at hQ
  by_cases hx1 : 1 ≤ x ∧ x ≤ 8
  · rw [zite_t hx1] at hQ
    have c2 : 0 ≤ x ∧ x ≤ nI 8 := ⟨Int32.le_trans (by decide) hx1.1, hx1.2⟩
    obtain ⟨m, hm, rfl⟩ := z_leN (by decide) c2
    have hm1 : 1 ≤ m := (nI_leI (a := 1) (by decide) (by omega)).mp hx1.1
    rw [nI_clamp (by omega)] at hQ
    refine kX6_type_0 ?_
    refine zb_go (zg_iload_n rfl) rfl ?_
    refine zb_go (zg_iconst 1 (by decide)) rfl ?_
    refine zb_go (zg_bipush 8 (by decide)) rfl ?_
    refine zb_calls (r_X6_inT hx1) lX6_87 rfl (by first | decide | omega) rfl (Nat.le_of_ble_eq_true rfl) rfl ?_
    refine zb_br (zg_if_ne (tgt := 12) (by decide)) rfl (fun c0 => ?_) (fun c0 => ?_)
    · refine kX6_type_12 ?_
      refine zb_go (zg_aload_n rfl) rfl ?_
      refine zb_go (zg_getfield fX6_91 (by first | decide | assumption | omega) (by repeat (first | assumption | exact z_up_self _ _ _ | refine (z_up_ne (by first | decide | omega)).trans ?_)) (by rfl)) rfl ?_
      refine zb_go (zg_iload_n rfl) rfl ?_
      refine zb_go zg_iadd rfl ?_
      rw [nI_add]
      refine zb_go (zg_sipush 200 (by decide)) rfl ?_
      refine zb_br (zg_icmp_le (tgt := 27) (by decide)) rfl (fun c3 => ?_) (fun c3 => ?_)
      · have c3 := (nI_leI (b := 200) (by omega) (by decide)).mp c3
        rw [if_neg (by omega)] at hQ
        have hby : ∀ i, i < gLen G + m → isByte (zpush (gTx G) (gLen G) v m m i) := fun i hi => by
          simp only [zpush]
          by_cases w : gLen G ≤ i ∧ i < gLen G + m
          · rw [if_pos w]; exact zbyte_fix v _
          · rw [if_neg w]; exact (htx i (by omega)).2
        have lp : ∀ k, k ≤ m → ∀ h0 tx', h0 34 = mObj (gTr G) (nI (gLen G + k)) (at_, st, so, va, fa, to, mo, wa, fe, ev) → h0 35 = .inl (1, 200, .inl tx') → (∀ i, i < gLen G + k → tx' i = zpush (gTx G) (gLen G) v m k i) → zSame 34 35 h h0 → zGo K l 1 mX6_type 32 [(0, .ref 34), (1, .long v), (3, .int (nI m)), (4, .int (nI (m - k) - 1))] [] 59 h0 0 0 Q := by
          refine z_down m (fun k hk ih h0 tx' g34 g35 ht hsm => ?_)
          have g1 : h0 34 = .inr _ := g34
          refine kX6_type_32 ?_
          refine zb_go (zg_iload rfl) rfl ?_
          refine zb_br (zg_if_lt (tgt := 75) (by decide)) rfl (fun c4 => ?_) (fun c4 => ?_)
          · have e : k = m := by
              rcases Nat.lt_or_ge k m with w | w
              · rw [show m - k = (m - k - 1) + 1 by omega, nI_pred] at c4
                exact absurd c4 (nI_pos (by omega))
              · omega
            subst e
            refine kX6_type_75 ?_
            refine zb_go (zg_aload_n rfl) rfl ?_
            refine zb_go (zg_getfield fX6_91 (by first | decide | assumption | omega) (by repeat (first | assumption | exact z_up_self _ _ _ | refine (z_up_ne (by first | decide | omega)).trans ?_)) (by rfl)) rfl ?_
            refine zb_end (zg_ireturn rfl (by rfl) ?_) rfl
            exact hQ _ _ ⟨rfl, hM.text hsm g34 g35 (fun i hi => ⟨ht i hi, hby i hi⟩), hsm.wide (by omega) (by omega)⟩
          · have hkm : k < m := by
              rcases Nat.lt_or_ge k m with w | w
              · exact w
              · rw [show m - k = 0 by omega] at c4
                exact absurd (by decide) c4
            have e1 : nI (m - k) - 1 = nI (m - k - 1) := pk_sub (a := m - k) (b := 1) (by omega)
            rw [e1]
            refine zb_go (zg_aload_n rfl) rfl ?_
            refine zb_go (zg_getfield fX6_7 (by first | decide | assumption | omega) (by repeat (first | assumption | exact z_up_self _ _ _ | refine (z_up_ne (by first | decide | omega)).trans ?_)) (by rfl)) rfl ?_
            refine zb_go (zg_aload_n rfl) rfl ?_
            refine zb_go (zg_getfield fX6_91 (by first | decide | assumption | omega) (by repeat (first | assumption | exact z_up_self _ _ _ | refine (z_up_ne (by first | decide | omega)).trans ?_)) (by rfl)) rfl ?_
            refine zb_go (zg_lload_n rfl) rfl ?_
            refine zb_go (zg_bipush 8 (by decide)) rfl ?_
            refine zb_go (zg_iload rfl) rfl ?_
            refine zb_go zg_imul rfl ?_
            rw [show (8 : Int32) = nI 8 from rfl, pk_mul]
            refine zb_go zg_lshr rfl ?_
            refine zb_go (zg_ldc2_w cX6_95) rfl ?_
            refine zb_go zg_land rfl ?_
            refine zb_go zg_l2i rfl ?_
            refine zb_go zg_i2b rfl ?_
            rw [zbyte_eq v (k := m - k - 1) (by omega)]
            refine zb_go (zi_bastore (by first | decide | assumption | omega) (by repeat (first | assumption | exact z_up_self _ _ _ | refine (z_up_ne (by first | decide | omega)).trans ?_)) (zIx.nI (k := gLen G + k) (by omega) (by decide))) rfl ?_
            refine zb_go (zg_aload_n rfl) rfl ?_
            refine zb_go (zg_dup rfl) rfl ?_
            refine zb_go (zg_getfield fX6_91 (by first | decide | assumption | omega) (by repeat (first | assumption | exact z_up_self _ _ _ | refine (z_up_ne (by first | decide | omega)).trans ?_)) (by rfl)) rfl ?_
            refine zb_go (zg_iconst 1 (by decide)) rfl ?_
            refine zb_go zg_iadd rfl ?_
            refine zb_go (zg_putfield fX6_91 (by first | decide | assumption | omega) (by repeat (first | assumption | exact z_up_self _ _ _ | refine (z_up_ne (by first | decide | omega)).trans ?_)) (by exact Nat.le_of_ble_eq_true rfl) (by rfl) (by rfl) (by first | exact Or.inl rfl | exact Or.inr ⟨rfl, rfl⟩)) rfl ?_
            refine zb_go (zg_iinc (-1) (by decide) rfl (by decide)) rfl ?_
            refine zb_end (zg_goto (tgt := 32) (by decide) ?_) rfl
            have e2 : nI (m - k - 1) + -1 = nI (m - (k + 1)) - 1 := by
              rw [show m - k - 1 = m - (k + 1) by omega, Int32.sub_eq_add_neg]
            rw [e2, nI_1, zbyte_fix]
            refine ih hkm _ _ (z_up_self _ _ _) ((z_up_ne (by decide)).trans (z_up_self _ _ _)) (fun i hi => ?_) ((hsm.up (by omega) (by omega)).up (by omega) (by omega))
            by_cases w : i = gLen G + k
            · rw [w, pk_us]
              simp only [zpush]
              rw [if_pos (by omega), show m - 1 - (gLen G + k - gLen G) = m - k - 1 by omega]
            · rw [pk_un w, ht i (by omega)]
              simp only [zpush]
              by_cases u : gLen G ≤ i ∧ i < gLen G + k
              · rw [if_pos u, if_pos (by omega)]
              · rw [if_neg u, if_neg (by omega)]
        refine kX6_type_27 ?_
        refine zb_go (zg_iload_n rfl) rfl ?_
        refine zb_go (zg_iconst 1 (by decide)) rfl ?_
        refine zb_go zg_isub rfl ?_
        refine zb_go (zg_istore (by decide)) rfl ?_
        refine zb_out ?_
        exact lp 0 (Nat.zero_le _) h tx h1 hx (fun i hi => by
          rw [(htx i hi).1]; simp only [zpush]; rw [if_neg (by omega)]) zSame.rf
      · have c3 : ¬ gLen G + m ≤ 200 := fun q => c3 (nI_le (b := 200) q (by decide))
        rw [if_pos (by omega)] at hQ
        refine zb_go (zg_bipush (-3) (by decide)) rfl ?_
        refine zb_end (zg_ireturn rfl (by rfl) ?_) rfl
        exact hQ _ _ ⟨rfl, hM, zSame.rf⟩
    · exact absurd c0 (by decide)
  · rw [zite_f hx1] at hQ
    refine kX6_type_0 ?_
    refine zb_go (zg_iload_n rfl) rfl ?_
    refine zb_go (zg_iconst 1 (by decide)) rfl ?_
    refine zb_go (zg_bipush 8 (by decide)) rfl ?_
    refine zb_calls (r_X6_inF hx1) lX6_87 rfl (by first | decide | omega) rfl (Nat.le_of_ble_eq_true rfl) rfl ?_
    refine zb_br (zg_if_ne (tgt := 12) (by decide)) rfl (fun c0 => ?_) (fun c0 => ?_)
    · exact absurd rfl c0
    · refine zb_go (zg_iconst (-1) (by decide)) rfl ?_
      refine zb_end (zg_ireturn rfl (by rfl) ?_) rfl
      exact hQ _ _ ⟨rfl, hM, zSame.rf⟩
theorem r_X6_mark (hM : mRel h G) (ok : okS G) : zRex K l 3 mX6_mark [.ref 34, .int x, .int y] 59 h (fun v h' => v = some (.int (sMark G x y).1) ∧ mRel h' (sMark G x y).2 ∧ zSame 34 58 h h') := by
  refine zRex.of (by decide) (Nat.le_of_ble_eq_true rfl) (fun Q hQ => ?_)
  obtain ⟨⟨at_, st, so, va, fa, to, mo, wa, fe, ev⟩, f, kf, h1, ⟨tx, hx, htx⟩, hP, h46, hN, h47, hkf, hI, hRm⟩ := id hM
  have hc : mCore h (gP G) f := ⟨⟨_, _, _, h1⟩, hP, h46⟩
  have h1 : h 34 = .inr _ := h1
  obtain ⟨⟨f1, a1, b1⟩, ⟨f2, a2, b2⟩, ⟨f3, a3, b3⟩, ⟨f4, a4, b4⟩, ⟨f5, a5, b5⟩, ⟨f6, a6, b6⟩, ⟨f7, a7, b7⟩, ⟨f8, a8⟩, ⟨f9, a9, b9⟩, ⟨f10, a10, b10⟩⟩ := id hP
  have okp := ok.1
  have okt := ok.2.1
  have kH := okp.1
  have kR := okp.2.1
  have bad : (sMark G x y = (-1000000, G)) → zGo K l 3 mX6_mark 17 (lv_args 0 [.ref 34, .int x, .int y]) [] 59 h 0 0 Q := by
    intro hn
    refine kX6_mark_17 ?_
    refine zb_go (zg_ldc cX6_233) rfl ?_
    refine zb_end (zg_ireturn rfl (by rfl) ?_) rfl
    rw [hn] at hQ
    exact hQ _ _ ⟨rfl, hM, zSame.rf⟩
  rcases z_swi x 5 (by decide) with ⟨k, hk, rfl⟩ | ho
  · have hin : 0 ≤ nI k ∧ nI k ≤ 5 := ⟨nI_pos' (by omega), nI_le (b := 5) hk (by decide)⟩
    refine kX6_mark_0 ?_
    refine zb_go (zg_iload_n rfl) rfl ?_
    refine zb_go (zg_iconst 0 (by decide)) rfl ?_
    refine zb_go (zg_iconst 5 (by decide)) rfl ?_
    refine zb_calls (r_X6_inT hin) lX6_87 rfl (by first | decide | omega) rfl (Nat.le_of_ble_eq_true rfl) rfl ?_
    refine zb_br (zg_if_eq (tgt := 17) (by decide)) rfl (fun c0 => ?_) (fun c0 => ?_)
    · exact absurd c0 (by decide)
    · by_cases hy : iR G y
      · refine zb_go (zg_aload_n rfl) rfl ?_
        refine zb_go (zg_iload_n rfl) rfl ?_
        refine zb_callv (r_X6_isRinger hc okp) lX6_153 (by repeat (first | assumption | exact z_up_self _ _ _ | refine (z_up_ne (by first | decide | omega)).trans ?_)) rfl rfl (by first | decide | assumption | omega) (by first | decide | omega) rfl (Nat.le_of_ble_eq_true rfl) rfl ?_
        refine zb_br (zg_if_ne (tgt := 20) (by decide)) rfl (fun c1 => ?_) (fun c1 => ?_)
        · unfold sMark at hQ
          rw [zite_t hy] at hQ
          obtain ⟨r, hr, rfl⟩ := z_isIx (by omega) hy
          rw [nI_clamp (by omega)] at hQ
          have i12 : zIx (nI r) 12 r := zIx.nI (by omega) (by decide)
          have hh := okp.2.2.2.2.2.2 r hr
          have eT := hN.tm okp okt (r := r) (by omega)
          have kp := okt.2.2.2.2.1
          have e12 : f 12 = nI (gT G).2.1 := hN.2.1
          have j12 : zIx 12 51 12 := zIx.nI (k := 12) (by decide) (by decide)
          have km : pBu (gP G) r &&& (2 ^ pH (gP G) - 1) < 64 := Nat.lt_of_le_of_lt Nat.and_le_left (by omega)
          have res : ∀ t : Int64, mRel (z_up h 34 (mObj t (nI (gLen G)) (at_, st, so, va, fa, to, mo, wa, fe, ev))) (wTr G t) := fun t => hM.cell (tr := gTr G) (ty := nI (gLen G)) (X := (at_, st, so, va, fa, to, mo, wa, fe, ev)) h1 t _
          have s1 : ∀ t : Int64, zSame 34 58 h (z_up h 34 (mObj t (nI (gLen G)) (at_, st, so, va, fa, to, mo, wa, fe, ev))) := fun t => zSame.rf.up (by omega) (by omega)
          have hcT : ∀ t : Int64, mCore (z_up h 34 (mObj t (nI (gLen G)) (at_, st, so, va, fa, to, mo, wa, fe, ev))) (gP G) f := fun t => ⟨⟨_, _, _, z_up_self _ _ _⟩, hP.same (lo := 34) (hi := 34) (zSame.rf.up (by omega) (by omega)) (by omega), (z_up_ne (by decide)).trans h46⟩
          refine kX6_mark_20 ?_
          refine zb_go (zg_aload_n rfl) rfl ?_
          refine zb_go (zg_iload_n rfl) rfl ?_
          refine zb_callv (r_X6_timesOf hc okp) lX6_147 (by repeat (first | assumption | exact z_up_self _ _ _ | refine (z_up_ne (by first | decide | omega)).trans ?_)) rfl rfl (by first | decide | assumption | omega) (by first | decide | omega) rfl (Nat.le_of_ble_eq_true rfl) rfl ?_
          refine zb_go (zg_istore_n (by decide)) rfl ?_
          refine zb_go (zg_aload_n rfl) rfl ?_
          refine zb_go (zg_getfield fX6_29 (by first | decide | assumption | omega) (by repeat (first | assumption | exact z_up_self _ _ _ | refine (z_up_ne (by first | decide | omega)).trans ?_)) (by rfl)) rfl ?_
          refine zb_go (zg_iload_n rfl) rfl ?_
          refine zb_go (zi_iaload (by first | decide | assumption | omega) (by repeat (first | assumption | exact z_up_self _ _ _ | refine (z_up_ne (by first | decide | omega)).trans ?_)) i12) rfl ?_
          refine zb_go (zg_iconst 1 (by decide)) rfl ?_
          refine zb_go (zg_aload_n rfl) rfl ?_
          refine zb_go (zg_getfield fX6_13 (by first | decide | assumption | omega) (by repeat (first | assumption | exact z_up_self _ _ _ | refine (z_up_ne (by first | decide | omega)).trans ?_)) (by rfl)) rfl ?_
          refine zb_go (zg_iconst 0 (by decide)) rfl ?_
          refine zb_go (zi_iaload (by first | decide | assumption | omega) (by repeat (first | assumption | exact z_up_self _ _ _ | refine (z_up_ne (by first | decide | omega)).trans ?_)) (by first | assumption | exact zIx.nI (by omega) (by decide) | exact ⟨by decide, by decide⟩ | exact zIx.nI (k := 0) (by decide) (by decide) | exact zIx.nI (k := 1) (by decide) (by decide) | exact zIx.nI (k := 2) (by decide) (by decide) | exact zIx.nI (k := 3) (by decide) (by decide))) rfl ?_
          rw [eT, b6 r hr, b1]
          refine zb_go zg_ishl rfl ?_
          refine zb_go (zg_iconst 1 (by decide)) rfl ?_
          refine zb_go zg_isub rfl ?_
          rw [z_mask (by omega)]
          refine zb_go zg_iand rfl ?_
          rw [z_and]
          refine zb_calls (r_X6_bitsIn km) lX6_179 rfl (by first | decide | omega) rfl (Nat.le_of_ble_eq_true rfl) rfl ?_
          refine zb_go (zg_istore (by decide)) rfl ?_
          refine zb_go (zg_iload_n rfl) rfl ?_
          rcases (show k = 0 ∨ k = 1 ∨ k = 2 ∨ k = 3 ∨ k = 4 ∨ k = 5 by omega) with rfl | rfl | rfl | rfl | rfl | rfl
          · rw [if_pos (by decide)] at hQ
            refine zb_end (len := 35) (zg_tableIn 35 84 (by decide) (by decide) (by rfl) (by decide) ?_) rfl
            refine kX6_mark_84 ?_
            refine zb_go (zg_aload_n rfl) rfl ?_
            refine zb_go (zg_dup rfl) rfl ?_
            refine zb_go (zg_getfield fX6_234 (by first | decide | assumption | omega) (by repeat (first | assumption | exact z_up_self _ _ _ | refine (z_up_ne (by first | decide | omega)).trans ?_)) (by rfl)) rfl ?_
            refine zb_go (zg_lconst 1 (by decide)) rfl ?_
            refine zb_go zg_ladd rfl ?_
            refine zb_go (zg_putfield fX6_234 (by first | decide | assumption | omega) (by repeat (first | assumption | exact z_up_self _ _ _ | refine (z_up_ne (by first | decide | omega)).trans ?_)) (by exact Nat.le_of_ble_eq_true rfl) (by rfl) (by rfl) (by first | exact Or.inl rfl | exact Or.inr ⟨rfl, rfl⟩)) rfl ?_
            refine zb_go (zg_iload_n rfl) rfl ?_
            refine zb_end (zg_ireturn rfl (by rfl) ?_) rfl
            exact hQ _ _ ⟨rfl, res _, s1 _⟩
          · rw [if_neg (by decide), if_pos (by decide)] at hQ
            refine zb_end (len := 35) (zg_tableIn 47 96 (by decide) (by decide) (by rfl) (by decide) ?_) rfl
            refine kX6_mark_96 ?_
            refine zb_go (zg_aload_n rfl) rfl ?_
            refine zb_go (zg_dup rfl) rfl ?_
            refine zb_go (zg_getfield fX6_234 (by first | decide | assumption | omega) (by repeat (first | assumption | exact z_up_self _ _ _ | refine (z_up_ne (by first | decide | omega)).trans ?_)) (by rfl)) rfl ?_
            refine zb_go (zg_ldc2_w cX6_238) rfl ?_
            refine zb_go zg_ladd rfl ?_
            refine zb_go (zg_putfield fX6_234 (by first | decide | assumption | omega) (by repeat (first | assumption | exact z_up_self _ _ _ | refine (z_up_ne (by first | decide | omega)).trans ?_)) (by exact Nat.le_of_ble_eq_true rfl) (by rfl) (by rfl) (by first | exact Or.inl rfl | exact Or.inr ⟨rfl, rfl⟩)) rfl ?_
            refine zb_go (zg_iload_n rfl) rfl ?_
            refine zb_go (zg_aload_n rfl) rfl ?_
            refine zb_go (zg_getfield fX6_26 (by first | decide | assumption | omega) (by repeat (first | assumption | exact z_up_self _ _ _ | refine (z_up_ne (by first | decide | omega)).trans ?_)) (by rfl)) rfl ?_
            refine zb_go (zg_iload_n rfl) rfl ?_
            refine zb_go (zi_iaload (by first | decide | assumption | omega) (by repeat (first | assumption | exact z_up_self _ _ _ | refine (z_up_ne (by first | decide | omega)).trans ?_)) i12) rfl ?_
            rw [b5 r hr]
            refine zb_calls (r_X6_bitsIn (by omega)) lX6_179 rfl (by first | decide | omega) rfl (Nat.le_of_ble_eq_true rfl) rfl ?_
            refine zb_go zg_iadd rfl ?_
            refine zb_end (zg_ireturn rfl (by rfl) ?_) rfl
            exact hQ _ _ ⟨rfl, res _, s1 _⟩
          · rw [if_neg (by decide), if_neg (by decide), if_pos (by decide)] at hQ
            refine zb_end (len := 35) (zg_tableIn 71 120 (by decide) (by decide) (by rfl) (by decide) ?_) rfl
            refine kX6_mark_120 ?_
            refine zb_go (zg_aload_n rfl) rfl ?_
            refine zb_go (zg_dup rfl) rfl ?_
            refine zb_go (zg_getfield fX6_234 (by first | decide | assumption | omega) (by repeat (first | assumption | exact z_up_self _ _ _ | refine (z_up_ne (by first | decide | omega)).trans ?_)) (by rfl)) rfl ?_
            refine zb_go (zg_ldc2_w cX6_240) rfl ?_
            refine zb_go zg_ladd rfl ?_
            refine zb_go (zg_putfield fX6_234 (by first | decide | assumption | omega) (by repeat (first | assumption | exact z_up_self _ _ _ | refine (z_up_ne (by first | decide | omega)).trans ?_)) (by exact Nat.le_of_ble_eq_true rfl) (by rfl) (by rfl) (by first | exact Or.inl rfl | exact Or.inr ⟨rfl, rfl⟩)) rfl ?_
            refine zb_go (zg_iload_n rfl) rfl ?_
            refine zb_go (zg_iload rfl) rfl ?_
            refine zb_go zg_isub rfl ?_
            refine zb_end (zg_ireturn rfl (by rfl) ?_) rfl
            exact hQ _ _ ⟨rfl, res _, s1 _⟩
          · rw [if_neg (by decide), if_neg (by decide), if_neg (by decide), if_pos (by decide)] at hQ
            refine zb_end (len := 35) (zg_tableIn 88 137 (by decide) (by decide) (by rfl) (by decide) ?_) rfl
            refine kX6_mark_137 ?_
            refine zb_go (zg_aload_n rfl) rfl ?_
            refine zb_go (zg_dup rfl) rfl ?_
            refine zb_go (zg_getfield fX6_234 (by first | decide | assumption | omega) (by repeat (first | assumption | exact z_up_self _ _ _ | refine (z_up_ne (by first | decide | omega)).trans ?_)) (by rfl)) rfl ?_
            refine zb_go (zg_ldc2_w cX6_242) rfl ?_
            refine zb_go zg_ladd rfl ?_
            refine zb_go (zg_putfield fX6_234 (by first | decide | assumption | omega) (by repeat (first | assumption | exact z_up_self _ _ _ | refine (z_up_ne (by first | decide | omega)).trans ?_)) (by exact Nat.le_of_ble_eq_true rfl) (by rfl) (by rfl) (by first | exact Or.inl rfl | exact Or.inr ⟨rfl, rfl⟩)) rfl ?_
            refine zb_go (zg_iconst 2 (by decide)) rfl ?_
            refine zb_go (zg_iload_n rfl) rfl ?_
            refine zb_go (zg_aload_n rfl) rfl ?_
            refine zb_go (zg_getfield fX6_26 (by first | decide | assumption | omega) (by repeat (first | assumption | exact z_up_self _ _ _ | refine (z_up_ne (by first | decide | omega)).trans ?_)) (by rfl)) rfl ?_
            refine zb_go (zg_iload_n rfl) rfl ?_
            refine zb_go (zi_iaload (by first | decide | assumption | omega) (by repeat (first | assumption | exact z_up_self _ _ _ | refine (z_up_ne (by first | decide | omega)).trans ?_)) i12) rfl ?_
            rw [b5 r hr]
            refine zb_calls (r_X6_bitsIn (by omega)) lX6_179 rfl (by first | decide | omega) rfl (Nat.le_of_ble_eq_true rfl) rfl ?_
            refine zb_go zg_iadd rfl ?_
            refine zb_go zg_imul rfl ?_
            refine zb_end (zg_ireturn rfl (by rfl) ?_) rfl
            rw [Int32.mul_comm]
            exact hQ _ _ ⟨rfl, res _, s1 _⟩
          · rw [if_neg (by decide), if_neg (by decide), if_neg (by decide), if_neg (by decide), if_pos (by decide)] at hQ
            refine zb_end (len := 35) (zg_tableIn 114 163 (by decide) (by decide) (by rfl) (by decide) ?_) rfl
            refine kX6_mark_163 ?_
            refine zb_go (zg_aload_n rfl) rfl ?_
            refine zb_go (zg_dup rfl) rfl ?_
            refine zb_go (zg_getfield fX6_234 (by first | decide | assumption | omega) (by repeat (first | assumption | exact z_up_self _ _ _ | refine (z_up_ne (by first | decide | omega)).trans ?_)) (by rfl)) rfl ?_
            refine zb_go (zg_ldc2_w cX6_244) rfl ?_
            refine zb_go zg_ladd rfl ?_
            refine zb_go (zg_putfield fX6_234 (by first | decide | assumption | omega) (by repeat (first | assumption | exact z_up_self _ _ _ | refine (z_up_ne (by first | decide | omega)).trans ?_)) (by exact Nat.le_of_ble_eq_true rfl) (by rfl) (by rfl) (by first | exact Or.inl rfl | exact Or.inr ⟨rfl, rfl⟩)) rfl ?_
            refine zb_go (zg_iload_n rfl) rfl ?_
            refine zb_go (zg_iload rfl) rfl ?_
            refine zb_go zg_isub rfl ?_
            refine zb_go (zg_iload_n rfl) rfl ?_
            refine zb_go zg_iadd rfl ?_
            refine zb_end (zg_ireturn rfl (by rfl) ?_) rfl
            exact hQ _ _ ⟨rfl, res _, s1 _⟩
          · rw [if_neg (by decide), if_neg (by decide), if_neg (by decide), if_neg (by decide), if_neg (by decide), if_pos (by decide)] at hQ
            refine zb_end (len := 35) (zg_tableOut 182 (Or.inr (by decide)) (by decide) ?_) rfl
            refine kX6_mark_182 ?_
            refine zb_go (zg_aload_n rfl) rfl ?_
            refine zb_go (zg_dup rfl) rfl ?_
            refine zb_go (zg_getfield fX6_234 (by first | decide | assumption | omega) (by repeat (first | assumption | exact z_up_self _ _ _ | refine (z_up_ne (by first | decide | omega)).trans ?_)) (by rfl)) rfl ?_
            refine zb_go (zg_ldc2_w cX6_246) rfl ?_
            refine zb_go zg_ladd rfl ?_
            refine zb_go (zg_putfield fX6_234 (by first | decide | assumption | omega) (by repeat (first | assumption | exact z_up_self _ _ _ | refine (z_up_ne (by first | decide | omega)).trans ?_)) (by exact Nat.le_of_ble_eq_true rfl) (by rfl) (by rfl) (by first | exact Or.inl rfl | exact Or.inr ⟨rfl, rfl⟩)) rfl ?_
            refine zb_go (zg_iload_n rfl) rfl ?_
            refine zb_go (zg_aload_n rfl) rfl ?_
            refine zb_go (zg_iload_n rfl) rfl ?_
            refine zb_go (zg_aload_n rfl) rfl ?_
            refine zb_go (zg_getfield fX6_44 (by first | decide | assumption | omega) (by repeat (first | assumption | exact z_up_self _ _ _ | refine (z_up_ne (by first | decide | omega)).trans ?_)) (by rfl)) rfl ?_
            refine zb_go (zg_bipush 12 (by decide)) rfl ?_
            refine zb_go (zi_iaload (by first | decide | assumption | omega) (by repeat (first | assumption | exact z_up_self _ _ _ | refine (z_up_ne (by first | decide | omega)).trans ?_)) j12) rfl ?_
            rw [e12]
            refine zb_callv (r_X6_wayOf (hcT _) okp hr (by omega)) lX6_150 (by repeat (first | assumption | exact z_up_self _ _ _ | refine (z_up_ne (by first | decide | omega)).trans ?_)) rfl rfl (by first | decide | assumption | omega) (by first | decide | omega) rfl (Nat.le_of_ble_eq_true rfl) rfl ?_
            refine zb_go zg_iadd rfl ?_
            refine zb_end (zg_ireturn rfl (by rfl) ?_) rfl
            exact hQ _ _ ⟨rfl, res _, s1 _⟩
        · exact absurd hy (show ¬ (0 ≤ y ∧ y < nI (pR (gP G))) from zb_0.mp c1)
      · refine zb_go (zg_aload_n rfl) rfl ?_
        refine zb_go (zg_iload_n rfl) rfl ?_
        refine zb_callv (r_X6_isRinger hc okp) lX6_153 (by repeat (first | assumption | exact z_up_self _ _ _ | refine (z_up_ne (by first | decide | omega)).trans ?_)) rfl rfl (by first | decide | assumption | omega) (by first | decide | omega) rfl (Nat.le_of_ble_eq_true rfl) rfl ?_
        refine zb_br (zg_if_ne (tgt := 20) (by decide)) rfl (fun c1 => ?_) (fun c1 => ?_)
        · exact absurd (show 0 ≤ y ∧ y < nI (pR (gP G)) from zb_n.mp c1) hy
        · refine zb_out ?_
          exact bad (by rw [sMark, zite_f hy])
  · refine kX6_mark_0 ?_
    refine zb_go (zg_iload_n rfl) rfl ?_
    refine zb_go (zg_iconst 0 (by decide)) rfl ?_
    refine zb_go (zg_iconst 5 (by decide)) rfl ?_
    refine zb_calls (r_X6_inF (z_out_le (N := 5) (by decide) ho)) lX6_87 rfl (by first | decide | omega) rfl (Nat.le_of_ble_eq_true rfl) rfl ?_
    refine zb_br (zg_if_eq (tgt := 17) (by decide)) rfl (fun c0 => ?_) (fun c0 => ?_)
    · refine bad ?_
      unfold sMark
      rw [if_neg (show ¬ x = 0 from z_out (k := 0) ho (by decide) (by decide)), if_neg (show ¬ x = 1 from z_out (k := 1) ho (by decide) (by decide)), if_neg (show ¬ x = 2 from z_out (k := 2) ho (by decide) (by decide)), if_neg (show ¬ x = 3 from z_out (k := 3) ho (by decide) (by decide)), if_neg (show ¬ x = 4 from z_out (k := 4) ho (by decide) (by decide)), if_neg (show ¬ x = 5 from z_out (k := 5) ho (by decide) (by decide))]
      unfold zite
      split <;> rfl
    · exact absurd rfl c0
end
