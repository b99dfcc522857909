/-! THE CLASS: what its calls answer (1) -/
def sRinger (G : zS) (x w : Int32) : Int32 :=
  if 0 ≤ x ∧ x < nI (pR (gP G)) then (if w = 0 then nI (pHo (gP G) x.toNatClampNeg) else if w = 1 then nI (pBe (gP G) x.toNatClampNeg) else if w = 2 then nI (pBu (gP G) x.toNatClampNeg) else if w = 3 then nI (pIl (gP G) x.toNatClampNeg) else if w = 4 then nI (tN (gT G) x.toNatClampNeg) else -1) else -1
def heardI (T : zT) (g : Nat) : Int32 := if T.2.2 g = 0 then -9 else nI (T.2.2 g - 1)
def sHour (G : zS) (x w : Int32) : Int32 :=
  if 0 ≤ x ∧ x < nI (pH (gP G)) then (if w = 0 then nI (pW (gP G) x.toNatClampNeg) else if w = 1 then nI (pW (gP G) x.toNatClampNeg) - nI (zpop (tIn (gT G) x.toNatClampNeg)) else if w = 2 then heardI (gT G) x.toNatClampNeg else -1) else -1
theorem z_out {x : Int32} {N k : Nat} (h : x.toInt < 0 ∨ (N : Int) < x.toInt) (hk : k ≤ N) (hN : N < 2 ^ 31) : x ≠ nI k := by
  rintro rfl
  rw [nI_toInt (by omega)] at h
  omega
section
variable {K : zK} {l : Launch} {n p q r g : Nat} {h : zH} {x y z : Int32} {G : zS}
theorem r_X5_ringer (hC : cRel h G) (ok : okS G) : zRet K l 4 mX5_ringer [.ref 0, .int x, .int y] 59 h (some (.int (sRinger G x y))) h := by
  refine zRet.of (by decide) (Nat.le_of_ble_eq_true rfl) (fun Q hQ => ?_)
  obtain ⟨p, q, P', N, kf, hpq, hat, hsc, hp, hq, ⟨S, B, hR, hB, hS⟩, -⟩ := hC
  have okp := ok.1
  have hpn : p + 5 < 59 := by omega
  have hat' : h 0 = _ := hat
  unfold sRinger at hQ
  have h17 := hR.1
  obtain ⟨p1, ⟨f1, p2, e2⟩, ⟨f2, p3, e3⟩, ⟨f3, p4, e4⟩, ⟨f4, p5, e5⟩, ⟨f5, p6, e6⟩⟩ := id hp
  have k2 := okp.2.1
  refine kX5_ringer_0 ?_
  refine zb_go (zg_aload_n rfl) rfl ?_
  refine zb_go (zg_getfield fX5_19 (by first | assumption | decide | omega) (by repeat (first | assumption | exact z_up_self _ _ _ | refine (z_up_ne (by first | decide | omega)).trans ?_)) (by rfl)) rfl ?_
  refine zb_go (zg_iload_n rfl) rfl ?_
  refine zb_callv (r_X2_hasRinger hp hpn) lX5_76 (by repeat (first | assumption | exact z_up_self _ _ _ | refine (z_up_ne (by first | decide | omega)).trans ?_)) rfl rfl (by first | assumption | decide | omega) (by decide) rfl (Nat.le_of_ble_eq_true rfl) rfl ?_
  refine zb_br (zg_if_ne (tgt := 13) (by decide)) rfl (fun c => ?_) (fun c => ?_)
  · have c := zb_n.mp c
    rw [if_pos c] at hQ
    obtain ⟨r, hr, rfl⟩ := z_isIx (by omega) c
    rw [nI_clamp (by omega)] at hQ
    refine kX5_ringer_13 ?_
    refine zb_go (zg_iload_n rfl) rfl ?_
    rcases z_swi y 4 (by decide) with ⟨k, hk, rfl⟩ | ho
    · rcases (show k = 0 ∨ k = 1 ∨ k = 2 ∨ k = 3 ∨ k = 4 by omega) with rfl | rfl | rfl | rfl | rfl
      · rw [if_pos (by decide)] at hQ
        refine zb_end (len := 34) (zg_tableIn 34 48 (by decide) (by decide) (by rfl) (by decide) ?_) rfl
        refine kX5_ringer_48 ?_
        refine zb_go (zg_aload_n rfl) rfl ?_
        refine zb_go (zg_getfield fX5_19 (by first | assumption | decide | omega) (by repeat (first | assumption | exact z_up_self _ _ _ | refine (z_up_ne (by first | decide | omega)).trans ?_)) (by rfl)) rfl ?_
        refine zb_go (zg_getfield fX5_80 (by first | assumption | decide | omega) (by repeat (first | assumption | exact z_up_self _ _ _ | refine (z_up_ne (by first | decide | omega)).trans ?_)) (by rfl)) rfl ?_
        refine zb_go (zg_iload_n rfl) rfl ?_
        refine zb_go (zi_iaload (by first | assumption | decide | omega) (by repeat (first | assumption | exact z_up_self _ _ _ | refine (z_up_ne (by first | decide | omega)).trans ?_)) (by first | assumption | exact zIx.nI (by omega) (by decide) | exact ⟨by decide, by decide⟩)) rfl ?_
        refine zb_end (zg_ireturn rfl (by rfl) ?_) rfl
        rw [e3 r hr]; exact hQ
      · rw [if_neg (by decide), if_pos (by decide)] at hQ
        refine zb_end (len := 34) (zg_tableIn 44 58 (by decide) (by decide) (by rfl) (by decide) ?_) rfl
        refine kX5_ringer_58 ?_
        refine zb_go (zg_aload_n rfl) rfl ?_
        refine zb_go (zg_getfield fX5_19 (by first | assumption | decide | omega) (by repeat (first | assumption | exact z_up_self _ _ _ | refine (z_up_ne (by first | decide | omega)).trans ?_)) (by rfl)) rfl ?_
        refine zb_go (zg_getfield fX5_84 (by first | assumption | decide | omega) (by repeat (first | assumption | exact z_up_self _ _ _ | refine (z_up_ne (by first | decide | omega)).trans ?_)) (by rfl)) rfl ?_
        refine zb_go (zg_iload_n rfl) rfl ?_
        refine zb_go (zi_iaload (by first | assumption | decide | omega) (by repeat (first | assumption | exact z_up_self _ _ _ | refine (z_up_ne (by first | decide | omega)).trans ?_)) (by first | assumption | exact zIx.nI (by omega) (by decide) | exact ⟨by decide, by decide⟩)) rfl ?_
        refine zb_end (zg_ireturn rfl (by rfl) ?_) rfl
        rw [e4 r hr]; exact hQ
      · rw [if_neg (by decide), if_neg (by decide), if_pos (by decide)] at hQ
        refine zb_end (len := 34) (zg_tableIn 54 68 (by decide) (by decide) (by rfl) (by decide) ?_) rfl
        refine kX5_ringer_68 ?_
        refine zb_go (zg_aload_n rfl) rfl ?_
        refine zb_go (zg_getfield fX5_19 (by first | assumption | decide | omega) (by repeat (first | assumption | exact z_up_self _ _ _ | refine (z_up_ne (by first | decide | omega)).trans ?_)) (by rfl)) rfl ?_
        refine zb_go (zg_getfield fX5_87 (by first | assumption | decide | omega) (by repeat (first | assumption | exact z_up_self _ _ _ | refine (z_up_ne (by first | decide | omega)).trans ?_)) (by rfl)) rfl ?_
        refine zb_go (zg_iload_n rfl) rfl ?_
        refine zb_go (zi_iaload (by first | assumption | decide | omega) (by repeat (first | assumption | exact z_up_self _ _ _ | refine (z_up_ne (by first | decide | omega)).trans ?_)) (by first | assumption | exact zIx.nI (by omega) (by decide) | exact ⟨by decide, by decide⟩)) rfl ?_
        refine zb_end (zg_ireturn rfl (by rfl) ?_) rfl
        rw [e5 r hr]; exact hQ
      · rw [if_neg (by decide), if_neg (by decide), if_neg (by decide), if_pos (by decide)] at hQ
        refine zb_end (len := 34) (zg_tableIn 64 78 (by decide) (by decide) (by rfl) (by decide) ?_) rfl
        refine kX5_ringer_78 ?_
        refine zb_go (zg_aload_n rfl) rfl ?_
        refine zb_go (zg_getfield fX5_19 (by first | assumption | decide | omega) (by repeat (first | assumption | exact z_up_self _ _ _ | refine (z_up_ne (by first | decide | omega)).trans ?_)) (by rfl)) rfl ?_
        refine zb_go (zg_getfield fX5_90 (by first | assumption | decide | omega) (by repeat (first | assumption | exact z_up_self _ _ _ | refine (z_up_ne (by first | decide | omega)).trans ?_)) (by rfl)) rfl ?_
        refine zb_go (zg_iload_n rfl) rfl ?_
        refine zb_go (zi_iaload (by first | assumption | decide | omega) (by repeat (first | assumption | exact z_up_self _ _ _ | refine (z_up_ne (by first | decide | omega)).trans ?_)) (by first | assumption | exact zIx.nI (by omega) (by decide) | exact ⟨by decide, by decide⟩)) rfl ?_
        refine zb_end (zg_ireturn rfl (by rfl) ?_) rfl
        rw [e6 r hr]; exact hQ
      · rw [if_neg (by decide), if_neg (by decide), if_neg (by decide), if_neg (by decide), if_pos (by decide)] at hQ
        rw [← rT_eq okp ok.2.1 hB (by omega)] at hQ
        refine zb_end (len := 34) (zg_tableIn 74 88 (by decide) (by decide) (by rfl) (by decide) ?_) rfl
        refine kX5_ringer_88 ?_
        refine zb_go (zg_aload_n rfl) rfl ?_
        refine zb_go (zg_getfield fX5_29 (by first | assumption | decide | omega) (by repeat (first | assumption | exact z_up_self _ _ _ | refine (z_up_ne (by first | decide | omega)).trans ?_)) (by rfl)) rfl ?_
        refine zb_go (zg_iload_n rfl) rfl ?_
        refine zb_callv (r_X3_timesOf hR (by decide) (by omega)) lX5_93 (by repeat (first | assumption | exact z_up_self _ _ _ | refine (z_up_ne (by first | decide | omega)).trans ?_)) rfl rfl (by first | assumption | decide | omega) (by decide) rfl (Nat.le_of_ble_eq_true rfl) rfl ?_
        refine zb_end (zg_ireturn rfl (by rfl) ?_) rfl
        exact hQ
    · rw [if_neg (show ¬ y = 0 from z_out (k := 0) ho (by decide) (by decide)), if_neg (show ¬ y = 1 from z_out (k := 1) ho (by decide) (by decide)), if_neg (show ¬ y = 2 from z_out (k := 2) ho (by decide) (by decide)), if_neg (show ¬ y = 3 from z_out (k := 3) ho (by decide) (by decide)), if_neg (show ¬ y = 4 from z_out (k := 4) ho (by decide) (by decide))] at hQ
      refine zb_end (len := 34) (zg_tableOut 97 ho (by decide) ?_) rfl
      refine kX5_ringer_97 ?_
      refine zb_go (zg_iconst (-1) (by decide)) rfl ?_
      refine zb_end (zg_ireturn rfl (by rfl) ?_) rfl
      exact hQ
  · rw [if_neg (zb_0.mp c)] at hQ
    refine zb_go (zg_iconst (-1) (by decide)) rfl ?_
    refine zb_end (zg_ireturn rfl (by rfl) ?_) rfl
    exact hQ
end
