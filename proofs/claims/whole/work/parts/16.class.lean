/-! THE CLASS (4): what changes nothing -/
def sNow (G : zS) (x : Int32) : Int32 := if x = 0 then nI (pAll (gP G)) - nI (tAll (gT G)) else if x = 1 then nI (tWalk (gP G) (gT G) (gT G).2.1) else if x = 2 then nI (tAll (gT G)) else if x = 3 then nI (gT G).2.1 else -1
def sCount (G : zS) (x : Int32) : Int32 := if x = 0 then nI (pH (gP G)) else if x = 1 then nI (pR (gP G)) else if x = 2 then nI (pTi (gP G)) else if x = 3 then nI (pRe (gP G)) else if x = 4 then nI (gLen G) else -1
noncomputable def sCrew (G : zS) (x : Int32) : Int32 := zite (iH G x) (nI (pW (gP G) x.toNatClampNeg) - nI (zmx (sLost (gP G) x.toNatClampNeg 63) (2 ^ pW (gP G) x.toNatClampNeg))) (-1)
noncomputable def sBars (G : zS) (x : Int32) : Int32 := zite (iH G x) (oI (zfst (fun s => decide (sLost (gP G) x.toNatClampNeg 63 s ≠ 0)) (2 ^ pW (gP G) x.toNatClampNeg))) (-1)
def sOddN (P : zP) (g : Nat) : Nat := sOdds P g (2 ^ pR P)
noncomputable def sOdd (G : zS) (x y : Int32) : Int32 := zite (iH G x ∧ 0 ≤ y ∧ y ≤ 1) (if y = 0 then nI (sOddN (gP G) x.toNatClampNeg / Nat.gcd (sOddN (gP G) x.toNatClampNeg) (10 ^ pR (gP G))) else nI (10 ^ pR (gP G) / Nat.gcd (sOddN (gP G) x.toNatClampNeg) (10 ^ pR (gP G)))) (-1)
/-- the first place up to k where f is least -/
def zarg (f : Nat → Nat) : Nat → Nat
  | 0 => 0
  | k + 1 => if f (k + 1) < f (zarg f k) then k + 1 else zarg f k
theorem zarg_le (f : Nat → Nat) (k : Nat) : zarg f k ≤ k := by
  induction k with
  | zero => exact Nat.le_refl _
  | succ k ih => simp only [zarg]; split <;> omega
noncomputable def sStands (G : zS) (x : Int32) : Int32 := zite (0 ≤ x ∧ x ≤ 1) (if x = 0 then nI (zarg (tWalk (gP G) (gT G)) 60) else nI (tWalk (gP G) (gT G) (zarg (tWalk (gP G) (gT G)) 60))) (-1)
theorem tWalk_le {P : zP} {T : zT} {w : Nat} (ok : okP P) (hw : w ≤ 60) : tWalk P T w ≤ 10000 := by
  have h := zsum_le (f := fun r => tN T r * 2 * zdist (pHo P r) w) (m := 480) (k := pR P) (fun i hi => by
    have h1 := tN_le T i
    have h2 := (ok.2.2.2.2.2.2 i hi).1
    have h3 : zdist (pHo P i) w ≤ 60 := by unfold zdist; split <;> omega
    calc tN T i * 2 * zdist (pHo P i) w ≤ 4 * 2 * 60 := Nat.mul_le_mul (Nat.mul_le_mul_right 2 h1) h3
      _ = 480 := rfl)
  have := ok.2.1
  have h4 : pR P * 480 ≤ 6 * 480 := Nat.mul_le_mul_right _ this
  exact Nat.le_trans h (by omega)
theorem pAll_le {P : zP} (ok : okP P) : pAll P ≤ 12 := by
  have h := zsum_le (f := pW P) (m := 3) (k := pH P) (fun i hi => (ok.2.2.2.2.2.1 i hi).2)
  have := ok.1
  exact Nat.le_trans h (by omega)
theorem sOdds_le {P : zP} {g : Nat} (ok : okP P) : ∀ k, sOdds P g k ≤ k * 10 ^ pR P := fun k => zsum_le (fun i _ => by
  split
  · exact sWt_le ok i (Nat.le_refl _)
  · exact Nat.zero_le _)
section
variable {K : zK} {l : Launch} {n p q r g : Nat} {h : zH} {x y z : Int32} {G : zS}
theorem r_X5_trace (hC : cRel h G) : zRet K l 0 mX5_trace [.ref 0] 59 h (some (.long (gTr G))) h := by
  refine zRet.of (by decide) (Nat.le_of_ble_eq_true rfl) (fun Q hQ => ?_)
  obtain ⟨p, q, P', N, kf, hpq, hat, -⟩ := hC
  have hat' : h 0 = _ := hat
  refine kX5_trace_0 ?_
  refine zb_go (zg_aload_n rfl) rfl ?_
  refine zb_go (zg_getfield fX5_48 (by first | assumption | decide | omega) (by repeat (first | assumption | exact z_up_self _ _ _ | refine (z_up_ne (by first | decide | omega)).trans ?_)) (by rfl)) rfl ?_
  refine zb_end (zg_lreturn rfl ?_) rfl
  exact hQ
theorem r_X5_count (hC : cRel h G) : zRet K l 0 mX5_count [.ref 0, .int x] 59 h (some (.int (sCount G x))) h := by
  refine zRet.of (by decide) (Nat.le_of_ble_eq_true rfl) (fun Q hQ => ?_)
  obtain ⟨p, q, P', N, kf, hpq, hat, ⟨pl, fa, tx, nu, to, ⟨s1, -⟩, -⟩, hp, -⟩ := hC
  have hat' : h 0 = _ := hat
  have hp1 := hp.1
  have hpn : p + 5 < 59 := by omega
  unfold sCount at hQ
  refine kX5_count_0 ?_
  refine zb_go (zg_iload_n rfl) rfl ?_
  rcases z_swi x 4 (by decide) with ⟨k, hk, rfl⟩ | ho
  · rcases (show k = 0 ∨ k = 1 ∨ k = 2 ∨ k = 3 ∨ k = 4 by omega) with rfl | rfl | rfl | rfl | rfl
    · rw [if_pos (by decide)] at hQ
      refine zb_end (len := 35) (zg_tableIn 35 36 (by decide) (by decide) (by rfl) (by decide) ?_) rfl
      refine kX5_count_36 ?_
      refine zb_go (zg_aload_n rfl) rfl ?_
      refine zb_go (zg_getfield fX5_19 (by first | assumption | decide | omega) (by repeat (first | assumption | exact z_up_self _ _ _ | refine (z_up_ne (by first | decide | omega)).trans ?_)) (by rfl)) rfl ?_
      refine zb_go (zg_getfield fX5_150 (by first | assumption | decide | omega) (by repeat (first | assumption | exact z_up_self _ _ _ | refine (z_up_ne (by first | decide | omega)).trans ?_)) (by rfl)) rfl ?_
      refine zb_end (zg_ireturn rfl (by rfl) ?_) rfl
      exact hQ
    · rw [if_neg (by decide), if_pos (by decide)] at hQ
      refine zb_end (len := 35) (zg_tableIn 43 44 (by decide) (by decide) (by rfl) (by decide) ?_) rfl
      refine kX5_count_44 ?_
      refine zb_go (zg_aload_n rfl) rfl ?_
      refine zb_go (zg_getfield fX5_19 (by first | assumption | decide | omega) (by repeat (first | assumption | exact z_up_self _ _ _ | refine (z_up_ne (by first | decide | omega)).trans ?_)) (by rfl)) rfl ?_
      refine zb_go (zg_getfield fX5_250 (by first | assumption | decide | omega) (by repeat (first | assumption | exact z_up_self _ _ _ | refine (z_up_ne (by first | decide | omega)).trans ?_)) (by rfl)) rfl ?_
      refine zb_end (zg_ireturn rfl (by rfl) ?_) rfl
      exact hQ
    · rw [if_neg (by decide), if_neg (by decide), if_pos (by decide)] at hQ
      refine zb_end (len := 35) (zg_tableIn 51 52 (by decide) (by decide) (by rfl) (by decide) ?_) rfl
      refine kX5_count_52 ?_
      refine zb_go (zg_aload_n rfl) rfl ?_
      refine zb_go (zg_getfield fX5_19 (by first | assumption | decide | omega) (by repeat (first | assumption | exact z_up_self _ _ _ | refine (z_up_ne (by first | decide | omega)).trans ?_)) (by rfl)) rfl ?_
      refine zb_go (zg_getfield fX5_253 (by first | assumption | decide | omega) (by repeat (first | assumption | exact z_up_self _ _ _ | refine (z_up_ne (by first | decide | omega)).trans ?_)) (by rfl)) rfl ?_
      refine zb_end (zg_ireturn rfl (by rfl) ?_) rfl
      exact hQ
    · rw [if_neg (by decide), if_neg (by decide), if_neg (by decide), if_pos (by decide)] at hQ
      refine zb_end (len := 35) (zg_tableIn 59 60 (by decide) (by decide) (by rfl) (by decide) ?_) rfl
      refine kX5_count_60 ?_
      refine zb_go (zg_aload_n rfl) rfl ?_
      refine zb_go (zg_getfield fX5_19 (by first | assumption | decide | omega) (by repeat (first | assumption | exact z_up_self _ _ _ | refine (z_up_ne (by first | decide | omega)).trans ?_)) (by rfl)) rfl ?_
      refine zb_go (zg_getfield fX5_256 (by first | assumption | decide | omega) (by repeat (first | assumption | exact z_up_self _ _ _ | refine (z_up_ne (by first | decide | omega)).trans ?_)) (by rfl)) rfl ?_
      refine zb_end (zg_ireturn rfl (by rfl) ?_) rfl
      exact hQ
    · rw [if_neg (by decide), if_neg (by decide), if_neg (by decide), if_neg (by decide), if_pos (by decide)] at hQ
      refine zb_end (len := 35) (zg_tableIn 67 68 (by decide) (by decide) (by rfl) (by decide) ?_) rfl
      refine kX5_count_68 ?_
      refine zb_go (zg_aload_n rfl) rfl ?_
      refine zb_go (zg_getfield fX5_10 (by first | assumption | decide | omega) (by repeat (first | assumption | exact z_up_self _ _ _ | refine (z_up_ne (by first | decide | omega)).trans ?_)) (by rfl)) rfl ?_
      refine zb_go (zg_getfield fX5_52 (by first | assumption | decide | omega) (by repeat (first | assumption | exact z_up_self _ _ _ | refine (z_up_ne (by first | decide | omega)).trans ?_)) (by rfl)) rfl ?_
      refine zb_end (zg_ireturn rfl (by rfl) ?_) rfl
      exact hQ
  · rw [if_neg (show ¬ x = 0 from z_out (k := 0) ho (by decide) (by decide)), if_neg (show ¬ x = 1 from z_out (k := 1) ho (by decide) (by decide)), if_neg (show ¬ x = 2 from z_out (k := 2) ho (by decide) (by decide)), if_neg (show ¬ x = 3 from z_out (k := 3) ho (by decide) (by decide)), if_neg (show ¬ x = 4 from z_out (k := 4) ho (by decide) (by decide))] at hQ
    refine zb_end (len := 35) (zg_tableOut 76 ho (by decide) ?_) rfl
    refine kX5_count_76 ?_
    refine zb_go (zg_iconst (-1) (by decide)) rfl ?_
    refine zb_end (zg_ireturn rfl (by rfl) ?_) rfl
    exact hQ
theorem r_X5_now (hC : cRel h G) (ok : okS G) : zRet K l 5 mX5_now [.ref 0, .int x] 59 h (some (.int (sNow G x))) h := by
  refine zRet.of (by decide) (Nat.le_of_ble_eq_true rfl) (fun Q hQ => ?_)
  obtain ⟨p, q, P', N, kf, hpq, hat, hsc, hp, hq, ⟨S, B, hR, hB, hS⟩, hfi, hkf, hk2, hN, hNo, hi0, hi1⟩ := id hC
  have okp := ok.1
  have okt := ok.2.1
  have hpn : p + 5 < 59 := by omega
  have hat' : h 0 = _ := hat
  have h17 := hR.1
  have kH := okp.1
  have kR := okp.2.1
  have hp1 := hp.1
  unfold sNow at hQ
  have kpl := okt.2.2.2.2.1
  refine kX5_now_0 ?_
  refine zb_go (zg_iload_n rfl) rfl ?_
  rcases z_swi x 3 (by decide) with ⟨k, hk, rfl⟩ | ho
  · rcases (show k = 0 ∨ k = 1 ∨ k = 2 ∨ k = 3 by omega) with rfl | rfl | rfl | rfl
    · rw [if_pos (by decide)] at hQ
      refine zb_end (len := 31) (zg_tableIn 31 32 (by decide) (by decide) (by rfl) (by decide) ?_) rfl
      refine kX5_now_32 ?_
      refine zb_go (zg_aload_n rfl) rfl ?_
      refine zb_go (zg_getfield fX5_19 (by first | assumption | decide | omega) (by repeat (first | assumption | exact z_up_self _ _ _ | refine (z_up_ne (by first | decide | omega)).trans ?_)) (by rfl)) rfl ?_
      refine zb_callv (r_X2_wantedInAll hp hpn okp) lX5_153 (by repeat (first | assumption | exact z_up_self _ _ _ | refine (z_up_ne (by first | decide | omega)).trans ?_)) rfl rfl (by first | assumption | decide | omega) (by decide) rfl (Nat.le_of_ble_eq_true rfl) rfl ?_
      refine zb_go (zg_aload_n rfl) rfl ?_
      refine zb_go (zg_getfield fX5_29 (by first | assumption | decide | omega) (by repeat (first | assumption | exact z_up_self _ _ _ | refine (z_up_ne (by first | decide | omega)).trans ?_)) (by rfl)) rfl ?_
      refine zb_go (zg_getfield fX5_130 (by first | assumption | decide | omega) (by repeat (first | assumption | exact z_up_self _ _ _ | refine (z_up_ne (by first | decide | omega)).trans ?_)) (by rfl)) rfl ?_
      refine zb_go zg_isub rfl ?_
      refine zb_end (zg_ireturn rfl (by rfl) ?_) rfl
      exact hQ
    · rw [if_neg (by decide), if_pos (by decide)] at hQ
      rw [← rWalk_eq okp okt hB] at hQ
      refine zb_end (len := 31) (zg_tableIn 47 48 (by decide) (by decide) (by rfl) (by decide) ?_) rfl
      refine kX5_now_48 ?_
      refine zb_go (zg_aload_n rfl) rfl ?_
      refine zb_go (zg_getfield fX5_29 (by first | assumption | decide | omega) (by repeat (first | assumption | exact z_up_self _ _ _ | refine (z_up_ne (by first | decide | omega)).trans ?_)) (by rfl)) rfl ?_
      refine zb_go (zg_aload_n rfl) rfl ?_
      refine zb_go (zg_getfield fX5_19 (by first | assumption | decide | omega) (by repeat (first | assumption | exact z_up_self _ _ _ | refine (z_up_ne (by first | decide | omega)).trans ?_)) (by rfl)) rfl ?_
      refine zb_go (zg_aload_n rfl) rfl ?_
      refine zb_go (zg_getfield fX5_29 (by first | assumption | decide | omega) (by repeat (first | assumption | exact z_up_self _ _ _ | refine (z_up_ne (by first | decide | omega)).trans ?_)) (by rfl)) rfl ?_
      refine zb_go (zg_getfield fX5_157 (by first | assumption | decide | omega) (by repeat (first | assumption | exact z_up_self _ _ _ | refine (z_up_ne (by first | decide | omega)).trans ?_)) (by rfl)) rfl ?_
      refine zb_callv (r_X3_walk hR (by decide) hp hpn okp (by omega)) lX5_158 (by repeat (first | assumption | exact z_up_self _ _ _ | refine (z_up_ne (by first | decide | omega)).trans ?_)) rfl rfl (by first | assumption | decide | omega) (by decide) rfl (Nat.le_of_ble_eq_true rfl) rfl ?_
      refine zb_end (zg_ireturn rfl (by rfl) ?_) rfl
      exact hQ
    · rw [if_neg (by decide), if_neg (by decide), if_pos (by decide)] at hQ
      refine zb_end (len := 31) (zg_tableIn 66 67 (by decide) (by decide) (by rfl) (by decide) ?_) rfl
      refine kX5_now_67 ?_
      refine zb_go (zg_aload_n rfl) rfl ?_
      refine zb_go (zg_getfield fX5_29 (by first | assumption | decide | omega) (by repeat (first | assumption | exact z_up_self _ _ _ | refine (z_up_ne (by first | decide | omega)).trans ?_)) (by rfl)) rfl ?_
      refine zb_go (zg_getfield fX5_130 (by first | assumption | decide | omega) (by repeat (first | assumption | exact z_up_self _ _ _ | refine (z_up_ne (by first | decide | omega)).trans ?_)) (by rfl)) rfl ?_
      refine zb_end (zg_ireturn rfl (by rfl) ?_) rfl
      exact hQ
    · rw [if_neg (by decide), if_neg (by decide), if_neg (by decide), if_pos (by decide)] at hQ
      refine zb_end (len := 31) (zg_tableIn 74 75 (by decide) (by decide) (by rfl) (by decide) ?_) rfl
      refine kX5_now_75 ?_
      refine zb_go (zg_aload_n rfl) rfl ?_
      refine zb_go (zg_getfield fX5_29 (by first | assumption | decide | omega) (by repeat (first | assumption | exact z_up_self _ _ _ | refine (z_up_ne (by first | decide | omega)).trans ?_)) (by rfl)) rfl ?_
      refine zb_go (zg_getfield fX5_157 (by first | assumption | decide | omega) (by repeat (first | assumption | exact z_up_self _ _ _ | refine (z_up_ne (by first | decide | omega)).trans ?_)) (by rfl)) rfl ?_
      refine zb_end (zg_ireturn rfl (by rfl) ?_) rfl
      exact hQ
  · rw [if_neg (show ¬ x = 0 from z_out (k := 0) ho (by decide) (by decide)), if_neg (show ¬ x = 1 from z_out (k := 1) ho (by decide) (by decide)), if_neg (show ¬ x = 2 from z_out (k := 2) ho (by decide) (by decide)), if_neg (show ¬ x = 3 from z_out (k := 3) ho (by decide) (by decide))] at hQ
    refine zb_end (len := 31) (zg_tableOut 83 ho (by decide) ?_) rfl
    refine kX5_now_83 ?_
    refine zb_go (zg_iconst (-1) (by decide)) rfl ?_
    refine zb_end (zg_ireturn rfl (by rfl) ?_) rfl
    exact hQ
theorem r_X5_crew (hC : cRel h G) (ok : okS G) : zRet K l 5 mX5_crew [.ref 0, .int x] 59 h (some (.int (sCrew G x))) h := by
  refine zRet.of (by decide) (Nat.le_of_ble_eq_true rfl) (fun Q hQ => ?_)
  obtain ⟨p, q, P', N, kf, hpq, hat, hsc, hp, hq, ⟨S, B, hR, hB, hS⟩, hfi, hkf, hk2, hN, hNo, hi0, hi1⟩ := id hC
  have okp := ok.1
  have okt := ok.2.1
  have hpn : p + 5 < 59 := by omega
  have hat' : h 0 = _ := hat
  have h17 := hR.1
  have kH := okp.1
  have kR := okp.2.1
  have hp1 := hp.1
  unfold sCrew at hQ
  refine kX5_crew_0 ?_
  refine zb_go (zg_aload_n rfl) rfl ?_
  refine zb_go (zg_getfield fX5_19 (by first | assumption | decide | omega) (by repeat (first | assumption | exact z_up_self _ _ _ | refine (z_up_ne (by first | decide | omega)).trans ?_)) (by rfl)) rfl ?_
  refine zb_go (zg_iload_n rfl) rfl ?_
  refine zb_callv (r_X2_hasHour hp hpn) lX5_97 (by repeat (first | assumption | exact z_up_self _ _ _ | refine (z_up_ne (by first | decide | omega)).trans ?_)) rfl rfl (by first | assumption | decide | omega) (by decide) rfl (Nat.le_of_ble_eq_true rfl) rfl ?_
  refine zb_br (zg_if_ne (tgt := 13) (by decide)) rfl (fun c => ?_) (fun c => ?_)
  · have c' := zb_n.mp c
    have c : iH G x := c'
    rw [zite_t c] at hQ
    obtain ⟨g, hg, rfl⟩ := z_isIx (by omega) c
    rw [nI_clamp (by omega)] at hQ
    refine kX5_crew_13 ?_
    refine zb_go (zg_aload_n rfl) rfl ?_
    refine zb_go (zg_getfield fX5_19 (by first | assumption | decide | omega) (by repeat (first | assumption | exact z_up_self _ _ _ | refine (z_up_ne (by first | decide | omega)).trans ?_)) (by rfl)) rfl ?_
    refine zb_go (zg_iload_n rfl) rfl ?_
    refine zb_calls (r_X0_most hp hpn okp hg) lX5_165 rfl (by decide) rfl (Nat.le_of_ble_eq_true rfl) rfl ?_
    refine zb_end (zg_ireturn rfl (by rfl) ?_) rfl
    exact hQ
  · have c' := zb_0.mp c
    rw [zite_f (show ¬ iH G x from c')] at hQ
    refine zb_go (zg_iconst (-1) (by decide)) rfl ?_
    refine zb_end (zg_ireturn rfl (by rfl) ?_) rfl
    exact hQ
theorem r_X5_bars (hC : cRel h G) (ok : okS G) : zRet K l 5 mX5_bars [.ref 0, .int x] 59 h (some (.int (sBars G x))) h := by
  refine zRet.of (by decide) (Nat.le_of_ble_eq_true rfl) (fun Q hQ => ?_)
  obtain ⟨p, q, P', N, kf, hpq, hat, hsc, hp, hq, ⟨S, B, hR, hB, hS⟩, hfi, hkf, hk2, hN, hNo, hi0, hi1⟩ := id hC
  have okp := ok.1
  have okt := ok.2.1
  have hpn : p + 5 < 59 := by omega
  have hat' : h 0 = _ := hat
  have h17 := hR.1
  have kH := okp.1
  have kR := okp.2.1
  have hp1 := hp.1
  unfold sBars at hQ
  refine kX5_bars_0 ?_
  refine zb_go (zg_aload_n rfl) rfl ?_
  refine zb_go (zg_getfield fX5_19 (by first | assumption | decide | omega) (by repeat (first | assumption | exact z_up_self _ _ _ | refine (z_up_ne (by first | decide | omega)).trans ?_)) (by rfl)) rfl ?_
  refine zb_go (zg_iload_n rfl) rfl ?_
  refine zb_callv (r_X2_hasHour hp hpn) lX5_97 (by repeat (first | assumption | exact z_up_self _ _ _ | refine (z_up_ne (by first | decide | omega)).trans ?_)) rfl rfl (by first | assumption | decide | omega) (by decide) rfl (Nat.le_of_ble_eq_true rfl) rfl ?_
  refine zb_br (zg_if_ne (tgt := 13) (by decide)) rfl (fun c => ?_) (fun c => ?_)
  · have c' := zb_n.mp c
    have c : iH G x := c'
    rw [zite_t c] at hQ
    obtain ⟨g, hg, rfl⟩ := z_isIx (by omega) c
    rw [nI_clamp (by omega)] at hQ
    refine kX5_bars_13 ?_
    refine zb_go (zg_aload_n rfl) rfl ?_
    refine zb_go (zg_getfield fX5_19 (by first | assumption | decide | omega) (by repeat (first | assumption | exact z_up_self _ _ _ | refine (z_up_ne (by first | decide | omega)).trans ?_)) (by rfl)) rfl ?_
    refine zb_go (zg_iload_n rfl) rfl ?_
    refine zb_go (zg_bipush 63 (by decide)) rfl ?_
    refine zb_callsx (r_X0_firstBar (am := 63) hp hpn okp hg (by decide)) lX5_170 rfl (by decide) rfl (Nat.le_of_ble_eq_true rfl) rfl ?_
    rintro v h' ⟨rfl, hv⟩
    rcases hv with ⟨s, h1, h2, h3, h4, rfl⟩ | ⟨h4, rfl⟩
    · rw [zfst_some (p := fun s => decide (sLost (gP G) g 63 s ≠ 0)) h2 (decide_eq_true h3) (fun i hi => decide_eq_false (fun z => z (h4 i hi)))] at hQ
      refine zb_end (zg_ireturn rfl (by rfl) ?_) rfl
      exact hQ
    · rw [zfst_none (p := fun s => decide (sLost (gP G) g 63 s ≠ 0)) (fun i hi => decide_eq_false (fun z => z (h4 i hi)))] at hQ
      refine zb_end (zg_ireturn rfl (by rfl) ?_) rfl
      exact hQ
  · have c' := zb_0.mp c
    rw [zite_f (show ¬ iH G x from c')] at hQ
    refine zb_go (zg_iconst (-1) (by decide)) rfl ?_
    refine zb_end (zg_ireturn rfl (by rfl) ?_) rfl
    exact hQ
theorem r_X5_odds (hC : cRel h G) (ok : okS G) : zRet K l 6 mX5_odds [.ref 0, .int x, .int y] 59 h (some (.int (sOdd G x y))) h := by
  refine zRet.of (by decide) (Nat.le_of_ble_eq_true rfl) (fun Q hQ => ?_)
  obtain ⟨p, q, P', N, kf, hpq, hat, hsc, hp, hq, ⟨S, B, hR, hB, hS⟩, hfi, hkf, hk2, hN, hNo, hi0, hi1⟩ := id hC
  have okp := ok.1
  have okt := ok.2.1
  have hpn : p + 5 < 59 := by omega
  have hat' : h 0 = _ := hat
  have h17 := hR.1
  have kH := okp.1
  have kR := okp.2.1
  have hp1 := hp.1
  unfold sOdd at hQ
  have bad : ¬ (iH G x ∧ 0 ≤ y ∧ y ≤ 1) → zGo K l 6 mX5_odds 20 (lv_args 0 [.ref 0, .int x, .int y]) [] 59 h 0 0 Q := by
    intro hn
    rw [zite_f hn] at hQ
    refine kX5_odds_20 ?_
    refine zb_go (zg_iconst (-1) (by decide)) rfl ?_
    refine zb_end (zg_ireturn rfl (by rfl) ?_) rfl
    exact hQ
  refine kX5_odds_0 ?_
  refine zb_go (zg_aload_n rfl) rfl ?_
  refine zb_go (zg_getfield fX5_19 (by first | assumption | decide | omega) (by repeat (first | assumption | exact z_up_self _ _ _ | refine (z_up_ne (by first | decide | omega)).trans ?_)) (by rfl)) rfl ?_
  refine zb_go (zg_iload_n rfl) rfl ?_
  refine zb_callv (r_X2_hasHour hp hpn) lX5_97 (by repeat (first | assumption | exact z_up_self _ _ _ | refine (z_up_ne (by first | decide | omega)).trans ?_)) rfl rfl (by first | assumption | decide | omega) (by decide) rfl (Nat.le_of_ble_eq_true rfl) rfl ?_
  refine zb_br (zg_if_eq (tgt := 20) (by decide)) rfl (fun c0 => ?_) (fun c0 => ?_)
  · have c0 := zb_0.mp c0
    exact bad (fun q => c0 q.1)
  · have c0' := zb_n.mp c0
    have c0 : iH G x := c0'
    refine zb_go (zg_iload_n rfl) rfl ?_
    refine zb_br (zg_if_lt (tgt := 20) (by decide)) rfl (fun c1 => ?_) (fun c1 => ?_)
    · exact bad (fun q => Int32.not_le.mpr c1 q.2.1)
    · refine zb_go (zg_iload_n rfl) rfl ?_
      refine zb_go (zg_iconst 1 (by decide)) rfl ?_
      refine zb_br (zg_icmp_le (tgt := 22) (by decide)) rfl (fun c2 => ?_) (fun c2 => ?_)
      · rw [zite_t ⟨c0, Int32.not_lt.mp c1, c2⟩] at hQ
        obtain ⟨g, hg, rfl⟩ := z_isIx (by omega) c0
        rw [nI_clamp (by omega)] at hQ
        have hup : sOddN (gP G) g ≤ 64 * 10 ^ pR (gP G) := Nat.le_trans (sOdds_le okp _) (Nat.mul_le_mul_right _ (Nat.pow_le_pow_right (by decide) kR : 2 ^ pR (gP G) ≤ 2 ^ 6))
        have h10 : 10 ^ pR (gP G) ≤ 10 ^ 6 := Nat.pow_le_pow_right (by decide) kR
        have h1 : 0 < 10 ^ pR (gP G) := Nat.pow_pos (by decide)
        have hc0 : 0 < Nat.gcd (sOddN (gP G) g) (10 ^ pR (gP G)) := Nat.gcd_pos_of_pos_right _ h1
        have hc1 : Nat.gcd (sOddN (gP G) g) (10 ^ pR (gP G)) ≤ 10 ^ pR (gP G) := Nat.gcd_le_right _ h1
        refine kX5_odds_22 ?_
        refine zb_go (zg_aload_n rfl) rfl ?_
        refine zb_go (zg_getfield fX5_19 (by first | assumption | decide | omega) (by repeat (first | assumption | exact z_up_self _ _ _ | refine (z_up_ne (by first | decide | omega)).trans ?_)) (by rfl)) rfl ?_
        refine zb_go (zg_iload_n rfl) rfl ?_
        refine zb_calls (r_X0_fullWeight hp hpn okp hg) lX5_196 rfl (by decide) rfl (Nat.le_of_ble_eq_true rfl) rfl ?_
        refine zb_go (zg_istore_n (by decide)) rfl ?_
        refine zb_go (zg_aload_n rfl) rfl ?_
        refine zb_go (zg_getfield fX5_19 (by first | assumption | decide | omega) (by repeat (first | assumption | exact z_up_self _ _ _ | refine (z_up_ne (by first | decide | omega)).trans ?_)) (by rfl)) rfl ?_
        refine zb_callv (r_X2_weightInAll hp hpn okp) lX5_199 (by repeat (first | assumption | exact z_up_self _ _ _ | refine (z_up_ne (by first | decide | omega)).trans ?_)) rfl rfl (by first | assumption | decide | omega) (by decide) rfl (Nat.le_of_ble_eq_true rfl) rfl ?_
        refine zb_go (zg_istore (by decide)) rfl ?_
        refine zb_go (zg_iload_n rfl) rfl ?_
        refine zb_go (zg_iload rfl) rfl ?_
        refine zb_calls (r_X5_commonDivisor (a := sOddN (gP G) g) (by omega) h1 (by omega)) lX5_202 rfl (by decide) rfl (Nat.le_of_ble_eq_true rfl) rfl ?_
        refine zb_go (zg_istore (by decide)) rfl ?_
        refine zb_go (zg_iload rfl) rfl ?_
        refine zb_go (zg_iconst 1 (by decide)) rfl ?_
        refine zb_br (zg_icmp_ge (tgt := 56) (by decide)) rfl (fun c3 => ?_) (fun c3 => ?_)
        · refine kX5_odds_56 ?_
          refine zb_go (zg_iload_n rfl) rfl ?_
          refine zb_br (zg_if_ne (tgt := 67) (by decide)) rfl (fun c4 => ?_) (fun c4 => ?_)
          · rw [if_neg c4, ← pk_div (by omega) hc0 (by omega)] at hQ
            refine kX5_odds_67 ?_
            refine zb_go (zg_iload rfl) rfl ?_
            refine zb_go (zg_iload rfl) rfl ?_
            refine zb_go (zg_idiv (nI_ne0 hc0 (by omega))) rfl ?_
            refine zb_out ?_
            refine kX5_odds_72 ?_
            refine zb_end (zg_ireturn rfl (by rfl) ?_) rfl
            exact hQ
          · rw [if_pos c4, ← pk_div (by omega) hc0 (by omega)] at hQ
            refine zb_go (zg_iload_n rfl) rfl ?_
            refine zb_go (zg_iload rfl) rfl ?_
            refine zb_go (zg_idiv (nI_ne0 hc0 (by omega))) rfl ?_
            refine zb_end (zg_goto (tgt := 72) (by decide) ?_) rfl
            refine kX5_odds_72 ?_
            refine zb_end (zg_ireturn rfl (by rfl) ?_) rfl
            exact hQ
        · exact absurd (nI_le (show 1 ≤ Nat.gcd (sOddN (gP G) g) (10 ^ pR (gP G)) from hc0) (by omega)) c3
      · refine zb_out ?_
        refine kX5_odds_20 ?_
        refine zb_go (zg_iconst (-1) (by decide)) rfl ?_
        refine zb_end (zg_ireturn rfl (by rfl) ?_) rfl
        rw [zite_f (fun q => c2 q.2.2)] at hQ
        exact hQ
theorem r_X5_stands (hC : cRel h G) (ok : okS G) : zRet K l 5 mX5_stands [.ref 0, .int x] 59 h (some (.int (sStands G x))) h := by
  refine zRet.of (by decide) (Nat.le_of_ble_eq_true rfl) (fun Q hQ => ?_)
  obtain ⟨p, q, P', N, kf, hpq, hat, hsc, hp, hq, ⟨S, B, hR, hB, hS⟩, hfi, hkf, hk2, hN, hNo, hi0, hi1⟩ := id hC
  have okp := ok.1
  have okt := ok.2.1
  have hpn : p + 5 < 59 := by omega
  have hat' : h 0 = _ := hat
  have h17 := hR.1
  have kH := okp.1
  have kR := okp.2.1
  have hp1 := hp.1
  unfold sStands at hQ
  refine kX5_stands_0 ?_
  refine zb_go (zg_iload_n rfl) rfl ?_
  refine zb_br (zg_if_lt (tgt := 9) (by decide)) rfl (fun c0 => ?_) (fun c0 => ?_)
  · rw [zite_f (fun q => Int32.not_le.mpr c0 q.1)] at hQ
    refine kX5_stands_9 ?_
    refine zb_go (zg_iconst (-1) (by decide)) rfl ?_
    refine zb_end (zg_ireturn rfl (by rfl) ?_) rfl
    exact hQ
  · refine zb_go (zg_iload_n rfl) rfl ?_
    refine zb_go (zg_iconst 1 (by decide)) rfl ?_
    refine zb_br (zg_icmp_le (tgt := 11) (by decide)) rfl (fun c1 => ?_) (fun c1 => ?_)
    · rw [zite_t ⟨Int32.not_lt.mp c0, c1⟩] at hQ
      have ew := rWalk_eq okp okt hB
      have lp : ∀ k, k ≤ 61 → 1 ≤ k → zGo K l 5 mX5_stands 29 [(0, .ref 0), (1, .int x), (2, .int (nI (zarg (tWalk (gP G) (gT G)) (k - 1)))), (3, .int (nI (tWalk (gP G) (gT G) (zarg (tWalk (gP G) (gT G)) (k - 1))))), (4, .int (nI k))] [] 59 h 0 0 Q := by
        refine z_down 61 (fun k hk ih h1k => ?_)
        have za := zarg_le (tWalk (gP G) (gT G)) (k - 1)
        have zw := tWalk_le (T := gT G) (w := zarg (tWalk (gP G) (gT G)) (k - 1)) okp (by omega)
        refine kX5_stands_29 ?_
        refine zb_go (zg_iload rfl) rfl ?_
        refine zb_go (zg_bipush 60 (by decide)) rfl ?_
        refine zb_br (zg_icmp_gt (tgt := 69) (by decide)) rfl (fun c2 => ?_) (fun c2 => ?_)
        · have e : k = 61 := by
            have := (nI_ltI (a := 60) (b := k) (by decide) (by omega)).mp c2
            omega
          subst e
          refine kX5_stands_69 ?_
          refine zb_go (zg_iload_n rfl) rfl ?_
          refine zb_br (zg_if_ne (tgt := 77) (by decide)) rfl (fun c3 => ?_) (fun c3 => ?_)
          · rw [if_neg c3] at hQ
            refine kX5_stands_77 ?_
            refine zb_go (zg_iload_n rfl) rfl ?_
            refine zb_out ?_
            refine kX5_stands_78 ?_
            refine zb_end (zg_ireturn rfl (by rfl) ?_) rfl
            exact hQ
          · rw [if_pos c3] at hQ
            refine zb_go (zg_iload_n rfl) rfl ?_
            refine zb_end (zg_goto (tgt := 78) (by decide) ?_) rfl
            refine kX5_stands_78 ?_
            refine zb_end (zg_ireturn rfl (by rfl) ?_) rfl
            exact hQ
        · have hk4 : k < 61 := by
            rcases Nat.lt_or_ge k 61 with q | q
            · exact q
            · exact absurd (nI_lt (show 60 < k by omega) (by omega)) c2
          have zw2 := tWalk_le (T := gT G) (w := k) okp (by omega)
          have ez : zarg (tWalk (gP G) (gT G)) k = if tWalk (gP G) (gT G) k < tWalk (gP G) (gT G) (zarg (tWalk (gP G) (gT G)) (k - 1)) then k else zarg (tWalk (gP G) (gT G)) (k - 1) := by
            obtain ⟨j, rfl⟩ : ∃ j, k = j + 1 := ⟨k - 1, by omega⟩
            rfl
          refine zb_go (zg_aload_n rfl) rfl ?_
          refine zb_go (zg_getfield fX5_29 (by first | assumption | decide | omega) (by repeat (first | assumption | exact z_up_self _ _ _ | refine (z_up_ne (by first | decide | omega)).trans ?_)) (by rfl)) rfl ?_
          refine zb_go (zg_aload_n rfl) rfl ?_
          refine zb_go (zg_getfield fX5_19 (by first | assumption | decide | omega) (by repeat (first | assumption | exact z_up_self _ _ _ | refine (z_up_ne (by first | decide | omega)).trans ?_)) (by rfl)) rfl ?_
          refine zb_go (zg_iload rfl) rfl ?_
          refine zb_callv (r_X3_walk hR (by decide) hp hpn okp (show k < 2 ^ 30 by omega)) lX5_158 (by repeat (first | assumption | exact z_up_self _ _ _ | refine (z_up_ne (by first | decide | omega)).trans ?_)) rfl rfl (by first | assumption | decide | omega) (by decide) rfl (Nat.le_of_ble_eq_true rfl) rfl ?_
          rw [ew]
          refine zb_go (zg_istore (by decide)) rfl ?_
          refine zb_go (zg_iload rfl) rfl ?_
          refine zb_go (zg_iload_n rfl) rfl ?_
          refine zb_br (zg_icmp_ge (tgt := 63) (by decide)) rfl (fun c3 => ?_) (fun c3 => ?_)
          · have c3 := (nI_leI (by omega) (by omega)).mp c3
            rw [if_neg (by omega)] at ez
            refine kX5_stands_63 ?_
            refine zb_go (zg_iinc 1 (by decide) rfl (by decide)) rfl ?_
            refine zb_end (zg_goto (tgt := 29) (by decide) ?_) rfl
            rw [nI_1]
            refine zg_keep [0, 1, 2, 3, 4] ?_
            have := ih hk4 (by omega)
            rw [Nat.add_sub_cancel, ez] at this
            exact this
          · have c3 : tWalk (gP G) (gT G) k < tWalk (gP G) (gT G) (zarg (tWalk (gP G) (gT G)) (k - 1)) := by
              rcases Nat.lt_or_ge (tWalk (gP G) (gT G) k) (tWalk (gP G) (gT G) (zarg (tWalk (gP G) (gT G)) (k - 1))) with q | q
              · exact q
              · exact absurd (nI_le q (by omega)) c3
            rw [if_pos c3] at ez
            refine zb_go (zg_iload rfl) rfl ?_
            refine zb_go (zg_istore_n (by decide)) rfl ?_
            refine zb_go (zg_iload rfl) rfl ?_
            refine zb_go (zg_istore_n (by decide)) rfl ?_
            refine zb_out ?_
            refine kX5_stands_63 ?_
            refine zb_go (zg_iinc 1 (by decide) rfl (by decide)) rfl ?_
            refine zb_end (zg_goto (tgt := 29) (by decide) ?_) rfl
            rw [nI_1]
            refine zg_keep [0, 1, 2, 3, 4] ?_
            have := ih hk4 (by omega)
            rw [Nat.add_sub_cancel, ez] at this
            exact this
      refine kX5_stands_11 ?_
      refine zb_go (zg_iconst 0 (by decide)) rfl ?_
      refine zb_go (zg_istore_n (by decide)) rfl ?_
      refine zb_go (zg_aload_n rfl) rfl ?_
      refine zb_go (zg_getfield fX5_29 (by first | assumption | decide | omega) (by repeat (first | assumption | exact z_up_self _ _ _ | refine (z_up_ne (by first | decide | omega)).trans ?_)) (by rfl)) rfl ?_
      refine zb_go (zg_aload_n rfl) rfl ?_
      refine zb_go (zg_getfield fX5_19 (by first | assumption | decide | omega) (by repeat (first | assumption | exact z_up_self _ _ _ | refine (z_up_ne (by first | decide | omega)).trans ?_)) (by rfl)) rfl ?_
      refine zb_go (zg_iconst 0 (by decide)) rfl ?_
      refine zb_callv (r_X3_walk (w := 0) hR (by decide) hp hpn okp (by omega)) lX5_158 (by repeat (first | assumption | exact z_up_self _ _ _ | refine (z_up_ne (by first | decide | omega)).trans ?_)) rfl rfl (by first | assumption | decide | omega) (by decide) rfl (Nat.le_of_ble_eq_true rfl) rfl ?_
      rw [ew]
      refine zb_go (zg_istore_n (by decide)) rfl ?_
      refine zb_go (zg_iconst 1 (by decide)) rfl ?_
      refine zb_go (zg_istore (by decide)) rfl ?_
      refine zb_out ?_
      exact lp 1 (by omega) (by omega)
    · rw [zite_f (fun q => c1 q.2)] at hQ
      refine zb_out ?_
      refine kX5_stands_9 ?_
      refine zb_go (zg_iconst (-1) (by decide)) rfl ?_
      refine zb_end (zg_ireturn rfl (by rfl) ?_) rfl
      exact hQ
end
