/-! THE CLASS (8): keep, back, clear, type -/
def wClear (G : zS) : zS := (0, G.2)
/-- the byte at place k from below -/
def zbyte (v : Int64) (k : Nat) : Int32 := ((v.toUInt64 >>> ((nI (8 * k)).toInt64.toUInt64 &&& Int64.toUInt64 63)).toInt64).toInt32.toInt8.toInt32
def zpush (f : Nat → Int32) (len : Nat) (v : Int64) (n j : Nat) : Nat → Int32 := fun i => if len ≤ i ∧ i < len + j then zbyte v (n - 1 - (i - len)) else f i
noncomputable def sType (G : zS) (v : Int64) (x : Int32) : Int32 × zS := zite (1 ≤ x ∧ x ≤ 8) (if gLen G + x.toNatClampNeg > 200 then (-3, G) else (nI (gLen G + x.toNatClampNeg), wTx G (gLen G + x.toNatClampNeg) (zpush (gTx G) (gLen G) v x.toNatClampNeg x.toNatClampNeg))) (-1, G)
def sClear (G : zS) : Int32 × zS := (nI (gLen G), wClear G)
theorem cRota.of {h : zH} {a : Nat} {T : zT} {S B S2 B2 : Nat → Int32} (hR : isRota h a (nI (tAll T)) (nI T.2.1) S2 B2) (hB : rB B T) (hS : rS S T) (e1 : ∀ j, j < 4 → S2 j = S j) (e2 : ∀ j, j < 24 → B2 j = B j) : cRota h a T :=
  ⟨S2, B2, hR, fun r g hr hg => by rw [e2 _ (by omega)]; exact hB r g hr hg, fun g hg => by rw [e1 _ hg]; exact hS g hg⟩
section
variable {K : zK} {l : Launch} {n p q r g : Nat} {h : zH} {x y z : Int32} {G : zS}
theorem r_X5_keep (hC : cRel h G) (ok : okS G) : zRex K l 2 mX5_keep [.ref 0, .int x] 59 h (fun v h' => v = some (.int (sKeep G x).1) ∧ cRel h' (sKeep G x).2 ∧ okS (sKeep G x).2 ∧ zSame 0 33 h h') := by
  refine zRex.of (by decide) (Nat.le_of_ble_eq_true rfl) (fun Q hQ => ?_)
  obtain ⟨p, q, P', N, kf, hpq, hat, hsc, hp, hq, ⟨S, B, hR, hB, hS⟩, hfi, hkf, hk2, hN, hNo, hi0, hi1⟩ := id hC
  have okp := ok.1
  have okt := ok.2.1
  have hpn : p + 5 < 59 := by omega
  have hat' : h 0 = _ := hat
  have h17 := hR.1
  have kH := okp.1
  have kR := okp.2.1
  have hp1 := hp.1
  obtain ⟨fi, f20, f0, f1⟩ := hfi
  unfold sKeep at hQ
  refine kX5_keep_0 ?_
  refine zb_go (zg_iload_n rfl) rfl ?_
  refine zb_br (zg_if_lt (tgt := 9) (by decide)) rfl (fun c0 => ?_) (fun c0 => ?_)
  · rw [zite_f (fun q => Int32.not_le.mpr c0 q.1)] at hQ
    refine kX5_keep_9 ?_
    refine zb_go (zg_iconst (-1) (by decide)) rfl ?_
    refine zb_end (zg_ireturn rfl (by rfl) ?_) rfl
    exact hQ _ _ ⟨rfl, hC, ok, zSame.rf⟩
  · refine zb_go (zg_iload_n rfl) rfl ?_
    refine zb_go (zg_iconst 2 (by decide)) rfl ?_
    refine zb_br (zg_icmp_lt (tgt := 11) (by decide)) rfl (fun c1 => ?_) (fun c1 => ?_)
    · have c2 : 0 ≤ x ∧ x < 2 := ⟨Int32.not_lt.mp c0, c1⟩
      rw [zite_t c2] at hQ
      obtain ⟨i, hi, rfl⟩ := z_isIx (N := 2) (by decide) c2
      rw [nI_clamp (by omega)] at hQ
      obtain ⟨a, ha, hfa, ⟨tu', tw', S', B', hRa⟩, hka⟩ : ∃ a, ((i = 0 ∧ a = 28) ∨ (i = 1 ∧ a = 31)) ∧ fi i = some a ∧ cImg h G i a := by
        rcases (show i = 0 ∨ i = 1 by omega) with rfl | rfl
        · exact ⟨28, Or.inl ⟨rfl, rfl⟩, f0, hi0⟩
        · exact ⟨31, Or.inr ⟨rfl, rfl⟩, f1, hi1⟩
      have ha1 := hRa.1
      refine kX5_keep_11 ?_
      refine zb_go (zg_aload_n rfl) rfl ?_
      refine zb_go (zg_getfield fX5_33 (by first | assumption | decide | omega) (by repeat (first | assumption | exact z_up_self _ _ _ | refine (z_up_ne (by first | decide | omega)).trans ?_)) (by rfl)) rfl ?_
      refine zb_go (zg_iload_n rfl) rfl ?_
      refine zb_go (zi_aaload (by decide) f20 (zIx.nI hi (by decide)) hfa) rfl ?_
      refine zb_go (zg_aload_n rfl) rfl ?_
      refine zb_go (zg_getfield fX5_29 (by first | assumption | decide | omega) (by repeat (first | assumption | exact z_up_self _ _ _ | refine (z_up_ne (by first | decide | omega)).trans ?_)) (by rfl)) rfl ?_
      refine zb_callvx (r_X3_copy hRa (by omega) hR (by decide) (by omega)) lX5_246 (by repeat (first | assumption | exact z_up_self _ _ _ | refine (z_up_ne (by first | decide | omega)).trans ?_)) rfl rfl (by first | assumption | decide | omega) (by decide) rfl (Nat.le_of_ble_eq_true rfl) rfl ?_
      rintro v h1 ⟨rfl, ⟨S2, B2, hR2, e1, e2⟩, hs⟩
      have gat : h1 0 = _ := (hs 0 (by omega)).trans hat'
      have g17 := (hR.same hs (by omega)).1
      have g21 : h1 21 = _ := (hs 21 (by omega)).trans hkf
      refine zb_go (zg_aload_n rfl) rfl ?_
      refine zb_go (zg_getfield fX5_37 (by first | assumption | decide | omega) (by repeat (first | assumption | exact z_up_self _ _ _ | refine (z_up_ne (by first | decide | omega)).trans ?_)) (by rfl)) rfl ?_
      refine zb_go (zg_iload_n rfl) rfl ?_
      refine zb_go (zg_iconst 1 (by decide)) rfl ?_
      refine zb_go (zi_zastore (y := 1) (by first | assumption | decide | omega) (by repeat (first | assumption | exact z_up_self _ _ _ | refine (z_up_ne (by first | decide | omega)).trans ?_)) (by first | assumption | exact zIx.nI (by omega) (by decide) | exact ⟨by decide, by decide⟩) (by decide)) rfl ?_
      refine zb_go (zg_aload_n rfl) rfl ?_
      refine zb_go (zg_getfield fX5_29 (by first | assumption | decide | omega) (by repeat (first | assumption | exact z_up_self _ _ _ | refine (z_up_ne (by first | decide | omega)).trans ?_)) (by rfl)) rfl ?_
      refine zb_go (zg_getfield fX5_130 (by first | assumption | decide | omega) (by repeat (first | assumption | exact z_up_self _ _ _ | refine (z_up_ne (by first | decide | omega)).trans ?_)) (by rfl)) rfl ?_
      refine zb_end (zg_ireturn rfl (by rfl) ?_) rfl
      have s2 : zSame 21 21 h1 (z_up h1 21 (.inl (3, 2, .inl (upd kf i 1)))) := zSame.rf.up (Nat.le_refl _) (Nat.le_refl _)
      have cim : ∀ j b, ((j = 0 ∧ b = 28) ∨ (j = 1 ∧ b = 31)) → cImg h G j b → cImg (z_up h1 21 (.inl (3, 2, .inl (upd kf i 1)))) (wKeep G i) j b := by
        intro j b hjb hj
        by_cases q : j = i
        · have hba : b = a := by omega
          rw [hba]
          refine ⟨⟨_, _, _, _, hR2.same s2 (by omega)⟩, fun _ => ?_⟩
          show cRota _ a (tupd (gI G) i (gT G) j)
          rw [tupd, if_pos q]
          exact cRota.of (hR2.same s2 (by omega)) hB hS e1 e2
        · have hj1 := (hj.same hs (by omega)).same s2 (by omega)
          refine ⟨hj1.1, fun hk => ?_⟩
          have hk : bupd (gK G) i j = true := hk
          rw [bupd, if_neg q] at hk
          show cRota _ b (tupd (gI G) i (gT G) j)
          rw [tupd, if_neg q]
          exact hj1.2 hk
      refine hQ _ _ ⟨rfl, ?_, ok.keep, (hs.wide (by omega) (by omega)).trans (s2.wide (by omega) (by omega))⟩
      refine ⟨p, q, P', N, upd kf i 1, hpq, (s2 0 (by omega)).trans gat, (hsc.same hs (by omega)).same s2 (by omega), (hp.same hs (by omega)).same s2 (by omega), (hq.same hs (by omega)).same s2 (by omega), ⟨S, B, (hR.same hs (by omega)).same s2 (by omega), hB, hS⟩, ⟨fi, (s2 20 (by omega)).trans ((hs 20 (by omega)).trans f20), f0, f1⟩, z_up_self _ _ _, fun j hj => ?_, (hN.same hs (by omega)).same s2 (by omega), hNo, cim 0 28 (Or.inl ⟨rfl, rfl⟩) hi0, cim 1 31 (Or.inr ⟨rfl, rfl⟩) hi1⟩
      show upd kf i 1 j = if bupd (gK G) i j then 1 else 0
      by_cases q : j = i
      · rw [q, pk_us, bupd, if_pos rfl]; rfl
      · rw [pk_un q, bupd, if_neg q]; exact hk2 j hj
    · refine zb_out ?_
      refine kX5_keep_9 ?_
      refine zb_go (zg_iconst (-1) (by decide)) rfl ?_
      refine zb_end (zg_ireturn rfl (by rfl) ?_) rfl
      rw [zite_f (fun q => c1 q.2)] at hQ
      exact hQ _ _ ⟨rfl, hC, ok, zSame.rf⟩
theorem r_X5_back (hC : cRel h G) (ok : okS G) : zRex K l 2 mX5_back [.ref 0, .int x] 59 h (fun v h' => v = some (.int (sBack G x).1) ∧ cRel h' (sBack G x).2 ∧ okS (sBack G x).2 ∧ zSame 0 33 h h') := by
  refine zRex.of (by decide) (Nat.le_of_ble_eq_true rfl) (fun Q hQ => ?_)
  obtain ⟨p, q, P', N, kf, hpq, hat, hsc, hp, hq, ⟨S, B, hR, hB, hS⟩, hfi, hkf, hk2, hN, hNo, hi0, hi1⟩ := id hC
  have okp := ok.1
  have okt := ok.2.1
  have hpn : p + 5 < 59 := by omega
  have hat' : h 0 = _ := hat
  have h17 := hR.1
  have kH := okp.1
  have kR := okp.2.1
  have hp1 := hp.1
  obtain ⟨fi, f20, f0, f1⟩ := hfi
  unfold sBack at hQ
  refine kX5_back_0 ?_
  refine zb_go (zg_iload_n rfl) rfl ?_
  refine zb_br (zg_if_lt (tgt := 9) (by decide)) rfl (fun c0 => ?_) (fun c0 => ?_)
  · rw [zite_f (fun q => Int32.not_le.mpr c0 q.1)] at hQ
    refine kX5_back_9 ?_
    refine zb_go (zg_iconst (-1) (by decide)) rfl ?_
    refine zb_end (zg_ireturn rfl (by rfl) ?_) rfl
    exact hQ _ _ ⟨rfl, hC, ok, zSame.rf⟩
  · refine zb_go (zg_iload_n rfl) rfl ?_
    refine zb_go (zg_iconst 2 (by decide)) rfl ?_
    refine zb_br (zg_icmp_lt (tgt := 11) (by decide)) rfl (fun c1 => ?_) (fun c1 => ?_)
    · have c2 : 0 ≤ x ∧ x < 2 := ⟨Int32.not_lt.mp c0, c1⟩
      rw [zite_t c2] at hQ
      obtain ⟨i, hi, rfl⟩ := z_isIx (N := 2) (by decide) c2
      rw [nI_clamp (by omega)] at hQ
      obtain ⟨a, ha, hfa, ⟨tu', tw', S', B', hRa⟩, hka⟩ : ∃ a, ((i = 0 ∧ a = 28) ∨ (i = 1 ∧ a = 31)) ∧ fi i = some a ∧ cImg h G i a := by
        rcases (show i = 0 ∨ i = 1 by omega) with rfl | rfl
        · exact ⟨28, Or.inl ⟨rfl, rfl⟩, f0, hi0⟩
        · exact ⟨31, Or.inr ⟨rfl, rfl⟩, f1, hi1⟩
      refine kX5_back_11 ?_
      refine zb_go (zg_aload_n rfl) rfl ?_
      refine zb_go (zg_getfield fX5_37 (by first | assumption | decide | omega) (by repeat (first | assumption | exact z_up_self _ _ _ | refine (z_up_ne (by first | decide | omega)).trans ?_)) (by rfl)) rfl ?_
      refine zb_go (zg_iload_n rfl) rfl ?_
      refine zb_go (zi_zaload (by first | assumption | decide | omega) (by repeat (first | assumption | exact z_up_self _ _ _ | refine (z_up_ne (by first | decide | omega)).trans ?_)) (by first | assumption | exact zIx.nI (by omega) (by decide) | exact ⟨by decide, by decide⟩)) rfl ?_
      rw [hk2 i hi]
      cases hg : gK G i with
      | false =>
        rw [hg] at hQ
        refine zb_br (zg_if_ne (tgt := 23) (by decide)) rfl (fun c3 => ?_) (fun c3 => ?_)
        · exact absurd rfl c3
        · refine zb_go (zg_bipush (-2) (by decide)) rfl ?_
          refine zb_end (zg_ireturn rfl (by rfl) ?_) rfl
          exact hQ _ _ ⟨rfl, hC, ok, zSame.rf⟩
      | true =>
        rw [hg] at hQ
        obtain ⟨Sa, Ba, hRa2, hBa, hSa⟩ := hka hg
        have okI := ok.2.2.1 i hi hg
        have ha1 := hRa2.1
        refine zb_br (zg_if_ne (tgt := 23) (by decide)) rfl (fun c3 => ?_) (fun c3 => ?_)
        · refine kX5_back_23 ?_
          refine zb_go (zg_aload_n rfl) rfl ?_
          refine zb_go (zg_getfield fX5_29 (by first | assumption | decide | omega) (by repeat (first | assumption | exact z_up_self _ _ _ | refine (z_up_ne (by first | decide | omega)).trans ?_)) (by rfl)) rfl ?_
          refine zb_go (zg_aload_n rfl) rfl ?_
          refine zb_go (zg_getfield fX5_33 (by first | assumption | decide | omega) (by repeat (first | assumption | exact z_up_self _ _ _ | refine (z_up_ne (by first | decide | omega)).trans ?_)) (by rfl)) rfl ?_
          refine zb_go (zg_iload_n rfl) rfl ?_
          refine zb_go (zi_aaload (by decide) f20 (zIx.nI hi (by decide)) hfa) rfl ?_
          refine zb_callvx (r_X3_copy hR (by decide) hRa2 (by omega) (by omega)) lX5_246 (by repeat (first | assumption | exact z_up_self _ _ _ | refine (z_up_ne (by first | decide | omega)).trans ?_)) rfl rfl (by first | assumption | decide | omega) (by decide) rfl (Nat.le_of_ble_eq_true rfl) rfl ?_
          rintro v h1 ⟨rfl, ⟨S2, B2, hR2, e1, e2⟩, hs⟩
          have gat : h1 0 = _ := (hs 0 (by omega)).trans hat'
          have gN := hN.same hs (by omega)
          have h22 := gN.cell
          refine zb_go (zg_aload_n rfl) rfl ?_
          refine zb_go (zg_getfield fX5_44 (by first | assumption | decide | omega) (by repeat (first | assumption | exact z_up_self _ _ _ | refine (z_up_ne (by first | decide | omega)).trans ?_)) (by rfl)) rfl ?_
          refine zb_callvx (r_X1_forTower gN) lX5_162 (by repeat (first | assumption | exact z_up_self _ _ _ | refine (z_up_ne (by first | decide | omega)).trans ?_)) rfl rfl (by first | assumption | decide | omega) (by decide) rfl (Nat.le_of_ble_eq_true rfl) rfl ?_
          rintro v h2 ⟨rfl, hN1, hs2⟩
          have gat2 : h2 0 = _ := (hs2 0 (by omega)).trans gat
          have g17 := (hR2.same hs2 (by omega)).1
          refine zb_go (zg_aload_n rfl) rfl ?_
          refine zb_go (zg_getfield fX5_29 (by first | assumption | decide | omega) (by repeat (first | assumption | exact z_up_self _ _ _ | refine (z_up_ne (by first | decide | omega)).trans ?_)) (by rfl)) rfl ?_
          refine zb_go (zg_getfield fX5_130 (by first | assumption | decide | omega) (by repeat (first | assumption | exact z_up_self _ _ _ | refine (z_up_ne (by first | decide | omega)).trans ?_)) (by rfl)) rfl ?_
          refine zb_end (zg_ireturn rfl (by rfl) ?_) rfl
          exact hQ _ _ ⟨rfl, hC.moved hs (cRota.of hR2 hBa hSa e1 e2) hs2 (fun N' hN' => by rw [hN'.inj gN]; exact hN1), ok.wT okI, (hs.wide (by omega) (by omega)).trans (hs2.wide (by omega) (by omega))⟩
        · exact absurd c3 (by decide)
    · refine zb_out ?_
      refine kX5_back_9 ?_
      refine zb_go (zg_iconst (-1) (by decide)) rfl ?_
      refine zb_end (zg_ireturn rfl (by rfl) ?_) rfl
      rw [zite_f (fun q => c1 q.2)] at hQ
      exact hQ _ _ ⟨rfl, hC, ok, zSame.rf⟩
/-- the script's cells changed -/
theorem cRel.script {h h1 : zH} {G : zS} {n : Nat} {f : Nat → Int32} (hC : cRel h G) (s : zSame 1 4 h h1) (hs : cScript h1 (wTx G n f)) : cRel h1 (wTx G n f) := by
  obtain ⟨p, q, P', N, kf, hpq, hat, hsc, hp, hq, hR0, ⟨fi, hfi, hfi2⟩, hkf, hk2, hN, hNo, hi0, hi1⟩ := hC
  exact ⟨p, q, P', N, kf, hpq, (s 0 (by omega)).trans hat, hs, hp.same s (by omega), hq.same s (by omega), hR0.same s (by omega), ⟨fi, (s 20 (by omega)).trans hfi, hfi2⟩, (s 21 (by omega)).trans hkf, hk2, hN.same s (by omega), hNo, hi0.same s (by omega), hi1.same s (by omega)⟩
theorem r_X4_empty {ln pl fa : Int32} {tx nu to : Nat → Int32} (hs : isScript h ln pl fa tx nu to) : zRex K l 0 mX4_empty [.ref 1] 59 h (fun v h' => v = none ∧ isScript h' 0 pl fa tx nu to ∧ zSame 1 1 h h') := by
  refine zRex.of (by decide) (Nat.le_of_ble_eq_true rfl) (fun Q hQ => ?_)
  obtain ⟨h1, h2, h3, h4⟩ := hs
  refine kX4_empty_0 ?_
  refine zb_go (zg_aload_n rfl) rfl ?_
  refine zb_go (zg_iconst 0 (by decide)) rfl ?_
  refine zb_go (zg_putfield fX4_11 (by first | assumption | decide | omega) (by repeat (first | assumption | exact z_up_self _ _ _ | refine (z_up_ne (by first | decide | omega)).trans ?_)) (by exact Nat.le_of_ble_eq_true rfl) (by rfl) (by rfl) (by first | exact Or.inl rfl | exact Or.inr ⟨rfl, rfl⟩)) rfl ?_
  refine zb_end (zg_return rfl ?_) rfl
  exact hQ _ _ ⟨rfl, ⟨z_up_self _ _ _, (z_up_ne (by decide)).trans h2, (z_up_ne (by decide)).trans h3, (z_up_ne (by decide)).trans h4⟩, zSame.rf.up (by omega) (by omega)⟩
theorem r_X5_clear (hC : cRel h G) (ok : okS G) : zRex K l 1 mX5_clear [.ref 0] 59 h (fun v h' => v = some (.int (sClear G).1) ∧ cRel h' (sClear G).2 ∧ okS (sClear G).2 ∧ zSame 0 33 h h') := by
  refine zRex.of (by decide) (Nat.le_of_ble_eq_true rfl) (fun Q hQ => ?_)
  obtain ⟨p, q, P', N, kf, hpq, hat, hsc, hp, hq, ⟨S, B, hR, hB, hS⟩, hfi, hkf, hk2, hN, hNo, hi0, hi1⟩ := id hC
  have okp := ok.1
  have okt := ok.2.1
  have hpn : p + 5 < 59 := by omega
  have hat' : h 0 = _ := hat
  have h17 := hR.1
  have kH := okp.1
  have kR := okp.2.1
  have hp1 := hp.1
  obtain ⟨pl, fa, tx, nu, to, hsc1, etx⟩ := hsc
  have s1 := hsc1.1
  refine kX5_clear_0 ?_
  refine zb_go (zg_aload_n rfl) rfl ?_
  refine zb_go (zg_getfield fX5_10 (by first | assumption | decide | omega) (by repeat (first | assumption | exact z_up_self _ _ _ | refine (z_up_ne (by first | decide | omega)).trans ?_)) (by rfl)) rfl ?_
  refine zb_go (zg_getfield fX5_52 (by first | assumption | decide | omega) (by repeat (first | assumption | exact z_up_self _ _ _ | refine (z_up_ne (by first | decide | omega)).trans ?_)) (by rfl)) rfl ?_
  refine zb_go (zg_istore_n (by decide)) rfl ?_
  refine zb_go (zg_aload_n rfl) rfl ?_
  refine zb_go (zg_getfield fX5_10 (by first | assumption | decide | omega) (by repeat (first | assumption | exact z_up_self _ _ _ | refine (z_up_ne (by first | decide | omega)).trans ?_)) (by rfl)) rfl ?_
  refine zb_callvx (r_X4_empty hsc1) lX5_60 (by repeat (first | assumption | exact z_up_self _ _ _ | refine (z_up_ne (by first | decide | omega)).trans ?_)) rfl rfl (by first | assumption | decide | omega) (by decide) rfl (Nat.le_of_ble_eq_true rfl) rfl ?_
  rintro v h1 ⟨rfl, hsc2, hs⟩
  refine zb_go (zg_iload_n rfl) rfl ?_
  refine zb_end (zg_ireturn rfl (by rfl) ?_) rfl
  exact hQ _ _ ⟨rfl, hC.script (n := 0) (f := gTx G) (hs.wide (by omega) (by omega)) ⟨pl, fa, tx, nu, to, hsc2, fun i hi => absurd hi (Nat.not_lt_zero _)⟩, ⟨ok.1, ok.2.1, ok.2.2.1, Nat.zero_le _⟩, hs.wide (by omega) (by omega)⟩
theorem r_X4_add {k : Nat} {pl fa : Int32} {tx nu to : Nat → Int32} (hs : isScript h (nI k) pl fa tx nu to) (hk : k < 200) : zRex K l 0 mX4_add [.ref 1, .int x] 59 h (fun v h' => v = none ∧ isScript h' (nI (k + 1)) pl fa (upd tx k x.toInt8.toInt32) nu to ∧ zSame 1 4 h h') := by
  refine zRex.of (by decide) (Nat.le_of_ble_eq_true rfl) (fun Q hQ => ?_)
  obtain ⟨h1, h2, h3, h4⟩ := hs
  refine kX4_add_0 ?_
  refine zb_go (zg_aload_n rfl) rfl ?_
  refine zb_go (zg_getfield fX4_11 (by first | assumption | decide | omega) (by repeat (first | assumption | exact z_up_self _ _ _ | refine (z_up_ne (by first | decide | omega)).trans ?_)) (by rfl)) rfl ?_
  refine zb_go (zg_sipush 200 (by decide)) rfl ?_
  refine zb_br (zg_icmp_ge (tgt := 30) (by decide)) rfl (fun c => ?_) (fun c => ?_)
  · exact absurd c (nI_ge hk (by decide))
  · refine zb_go (zg_aload_n rfl) rfl ?_
    refine zb_go (zg_getfield fX4_15 (by first | assumption | decide | omega) (by repeat (first | assumption | exact z_up_self _ _ _ | refine (z_up_ne (by first | decide | omega)).trans ?_)) (by rfl)) rfl ?_
    refine zb_go (zg_aload_n rfl) rfl ?_
    refine zb_go (zg_getfield fX4_11 (by first | assumption | decide | omega) (by repeat (first | assumption | exact z_up_self _ _ _ | refine (z_up_ne (by first | decide | omega)).trans ?_)) (by rfl)) rfl ?_
    refine zb_go (zg_iload_n rfl) rfl ?_
    refine zb_go (zi_bastore (by first | assumption | decide | omega) (by repeat (first | assumption | exact z_up_self _ _ _ | refine (z_up_ne (by first | decide | omega)).trans ?_)) (by first | assumption | exact zIx.nI (by omega) (by decide) | exact ⟨by decide, by decide⟩)) rfl ?_
    refine zb_go (zg_aload_n rfl) rfl ?_
    refine zb_go (zg_dup rfl) rfl ?_
    refine zb_go (zg_getfield fX4_11 (by first | assumption | decide | omega) (by repeat (first | assumption | exact z_up_self _ _ _ | refine (z_up_ne (by first | decide | omega)).trans ?_)) (by rfl)) rfl ?_
    refine zb_go (zg_iconst 1 (by decide)) rfl ?_
    refine zb_go zg_iadd rfl ?_
    refine zb_go (zg_putfield fX4_11 (by first | assumption | decide | omega) (by repeat (first | assumption | exact z_up_self _ _ _ | refine (z_up_ne (by first | decide | omega)).trans ?_)) (by exact Nat.le_of_ble_eq_true rfl) (by rfl) (by rfl) (by first | exact Or.inl rfl | exact Or.inr ⟨rfl, rfl⟩)) rfl ?_
    refine zb_out ?_
    refine kX4_add_30 ?_
    refine zb_end (zg_return rfl ?_) rfl
    rw [nI_1]
    exact hQ _ _ ⟨rfl, ⟨z_up_self _ _ _, (z_up_ne (by decide)).trans (z_up_self _ _ _), (z_up_ne (by decide)).trans ((z_up_ne (by decide)).trans h3), (z_up_ne (by decide)).trans ((z_up_ne (by decide)).trans h4)⟩, (zSame.rf.up (by omega) (by omega)).up (by omega) (by omega)⟩
theorem zbyte_fix (v : Int64) (k : Nat) : (zbyte v k).toInt8.toInt32 = zbyte v k := by
  unfold zbyte
  rw [Int8.toInt8_toInt32]
theorem r_X5_type {v : Int64} (hC : cRel h G) (ok : okS G) : zRex K l 1 mX5_type [.ref 0, .long v, .int x] 59 h (fun w h' => w = some (.int (sType G v x).1) ∧ cRel h' (sType G v x).2 ∧ okS (sType G v x).2 ∧ zSame 0 33 h h') := by
  refine zRex.of (by decide) (Nat.le_of_ble_eq_true rfl) (fun Q hQ => ?_)
  obtain ⟨p, q, P', N, kf, hpq, hat, hsc, hp, hq, ⟨S, B, hR, hB, hS⟩, hfi, hkf, hk2, hN, hNo, hi0, hi1⟩ := id hC
  have okp := ok.1
  have okt := ok.2.1
  have hpn : p + 5 < 59 := by omega
  have hat' : h 0 = _ := hat
  have h17 := hR.1
  have kH := okp.1
  have kR := okp.2.1
  have hp1 := hp.1
  have hsc0 := hsc
  obtain ⟨pl, fa, tx, nu, to, hsc1, etx⟩ := hsc
  have s1 := hsc1.1
  have kl := ok.2.2.2
  unfold sType at hQ
  refine kX5_type_0 ?_
  refine zb_go (zg_iload_n rfl) rfl ?_
  refine zb_go (zg_iconst 1 (by decide)) rfl ?_
  refine zb_br (zg_icmp_lt (tgt := 11) (by decide)) rfl (fun c0 => ?_) (fun c0 => ?_)
  · rw [zite_f (fun q => Int32.not_le.mpr c0 q.1)] at hQ
    refine kX5_type_11 ?_
    refine zb_go (zg_iconst (-1) (by decide)) rfl ?_
    refine zb_end (zg_ireturn rfl (by rfl) ?_) rfl
    exact hQ _ _ ⟨rfl, hC, ok, zSame.rf⟩
  · refine zb_go (zg_iload_n rfl) rfl ?_
    refine zb_go (zg_bipush 8 (by decide)) rfl ?_
    refine zb_br (zg_icmp_le (tgt := 13) (by decide)) rfl (fun c1 => ?_) (fun c1 => ?_)
    · rw [zite_t ⟨Int32.not_lt.mp c0, c1⟩] at hQ
      have c2 : 0 ≤ x ∧ x ≤ nI 8 := ⟨Int32.le_trans (by decide) (Int32.not_lt.mp c0), c1⟩
      obtain ⟨m, hm, rfl⟩ := z_leN (by decide) c2
      have hm1 : 1 ≤ m := (nI_leI (a := 1) (by decide) (by omega)).mp (Int32.not_lt.mp c0)
      rw [nI_clamp (by omega)] at hQ
      refine kX5_type_13 ?_
      refine zb_go (zg_aload_n rfl) rfl ?_
      refine zb_go (zg_getfield fX5_10 (by first | assumption | decide | omega) (by repeat (first | assumption | exact z_up_self _ _ _ | refine (z_up_ne (by first | decide | omega)).trans ?_)) (by rfl)) rfl ?_
      refine zb_go (zg_getfield fX5_52 (by first | assumption | decide | omega) (by repeat (first | assumption | exact z_up_self _ _ _ | refine (z_up_ne (by first | decide | omega)).trans ?_)) (by rfl)) rfl ?_
      refine zb_go (zg_iload_n rfl) rfl ?_
      refine zb_go zg_iadd rfl ?_
      rw [nI_add]
      refine zb_go (zg_sipush 200 (by decide)) rfl ?_
      refine zb_br (zg_icmp_le (tgt := 31) (by decide)) rfl (fun c3 => ?_) (fun c3 => ?_)
      · have c3 := (nI_leI (b := 200) (by omega) (by decide)).mp c3
        rw [if_neg (by omega)] at hQ
        have lp : ∀ k, k ≤ m → ∀ h0 tx', isScript h0 (nI (gLen G + k)) pl fa tx' nu to → (∀ i, i < gLen G + k → tx' i = zpush (gTx G) (gLen G) v m k i) → zSame 1 4 h h0 → zGo K l 1 mX5_type 36 [(0, .ref 0), (1, .long v), (3, .int (nI m)), (4, .int (nI (m - k) - 1))] [] 59 h0 0 0 Q := by
          refine z_down m (fun k hk ih h0 tx' hs0 ht hsm => ?_)
          have gat : h0 0 = _ := (hsm 0 (by omega)).trans hat'
          have g1 := hs0.1
          refine kX5_type_36 ?_
          refine zb_go (zg_iload rfl) rfl ?_
          refine zb_br (zg_if_lt (tgt := 63) (by decide)) rfl (fun c4 => ?_) (fun c4 => ?_)
          · have e : k = m := by
              rcases Nat.lt_or_ge k m with z | z
              · rw [show m - k = (m - k - 1) + 1 by omega, nI_pred] at c4
                exact absurd c4 (nI_pos (by omega))
              · omega
            subst e
            refine kX5_type_63 ?_
            refine zb_go (zg_aload_n rfl) rfl ?_
            refine zb_go (zg_getfield fX5_10 (by first | assumption | decide | omega) (by repeat (first | assumption | exact z_up_self _ _ _ | refine (z_up_ne (by first | decide | omega)).trans ?_)) (by rfl)) rfl ?_
            refine zb_go (zg_getfield fX5_52 (by first | assumption | decide | omega) (by repeat (first | assumption | exact z_up_self _ _ _ | refine (z_up_ne (by first | decide | omega)).trans ?_)) (by rfl)) rfl ?_
            refine zb_end (zg_ireturn rfl (by rfl) ?_) rfl
            exact hQ _ _ ⟨rfl, hC.script hsm ⟨pl, fa, tx', nu, to, hs0, ht⟩, ⟨ok.1, ok.2.1, ok.2.2.1, c3⟩, hsm.wide (by omega) (by omega)⟩
          · have hkm : k < m := by
              rcases Nat.lt_or_ge k m with z | z
              · exact z
              · rw [show m - k = 0 by omega] at c4
                exact absurd (by decide) c4
            have e1 : nI (m - k) - 1 = nI (m - k - 1) := pk_sub (a := m - k) (b := 1) (by omega)
            rw [e1]
            refine zb_go (zg_aload_n rfl) rfl ?_
            refine zb_go (zg_getfield fX5_10 (by first | assumption | decide | omega) (by repeat (first | assumption | exact z_up_self _ _ _ | refine (z_up_ne (by first | decide | omega)).trans ?_)) (by rfl)) rfl ?_
            refine zb_go (zg_lload_n rfl) rfl ?_
            refine zb_go (zg_bipush 8 (by decide)) rfl ?_
            refine zb_go (zg_iload rfl) rfl ?_
            refine zb_go zg_imul rfl ?_
            rw [show (8 : Int32) = nI 8 from rfl, pk_mul]
            refine zb_go zg_lushr rfl ?_
            refine zb_go zg_l2i rfl ?_
            refine zb_go zg_i2b rfl ?_
            refine zb_callvx (r_X4_add hs0 (by omega)) lX5_56 (by repeat (first | assumption | exact z_up_self _ _ _ | refine (z_up_ne (by first | decide | omega)).trans ?_)) rfl rfl (by first | assumption | decide | omega) (by decide) rfl (Nat.le_of_ble_eq_true rfl) rfl ?_
            rintro w h1 ⟨rfl, hs1, hsm1⟩
            refine zb_go (zg_iinc (-1) (by decide) rfl (by decide)) rfl ?_
            refine zb_end (zg_goto (tgt := 36) (by decide) ?_) rfl
            have e2 : nI (m - k - 1) + -1 = nI (m - (k + 1)) - 1 := by
              rw [show m - k - 1 = m - (k + 1) by omega, Int32.sub_eq_add_neg]
            rw [e2]
            refine ih hkm h1 _ hs1 (fun i hi => ?_) (hsm.trans hsm1)
            have eb : (zbyte v (m - k - 1)).toInt8.toInt32 = zbyte v (m - k - 1) := zbyte_fix v _
            by_cases q : i = gLen G + k
            · rw [q, pk_us]
              show (zbyte v (m - k - 1)).toInt8.toInt32 = _
              rw [eb]
              simp only [zpush]
              rw [if_pos (by omega), show m - 1 - (gLen G + k - gLen G) = m - k - 1 by omega]
            · rw [pk_un q, ht i (by omega)]
              simp only [zpush]
              by_cases z : gLen G ≤ i ∧ i < gLen G + k
              · rw [if_pos z, if_pos (by omega)]
              · rw [if_neg z, if_neg (by omega)]
        refine kX5_type_31 ?_
        refine zb_go (zg_iload_n rfl) rfl ?_
        refine zb_go (zg_iconst 1 (by decide)) rfl ?_
        refine zb_go zg_isub rfl ?_
        refine zb_go (zg_istore (by decide)) rfl ?_
        refine zb_out ?_
        exact lp 0 (Nat.zero_le _) h tx hsc1 (fun i hi => by
          rw [etx i hi]; simp only [zpush]; rw [if_neg (by omega)]) zSame.rf
      · have c3 : ¬ gLen G + m ≤ 200 := fun q => c3 (nI_le (b := 200) q (by decide))
        rw [if_pos (by omega)] at hQ
        refine zb_go (zg_bipush (-3) (by decide)) rfl ?_
        refine zb_end (zg_ireturn rfl (by rfl) ?_) rfl
        exact hQ _ _ ⟨rfl, hC, ok, zSame.rf⟩
    · refine zb_out ?_
      refine kX5_type_11 ?_
      refine zb_go (zg_iconst (-1) (by decide)) rfl ?_
      refine zb_end (zg_ireturn rfl (by rfl) ?_) rfl
      rw [zite_f (fun q => c1 q.2)] at hQ
      exact hQ _ _ ⟨rfl, hC, ok, zSame.rf⟩
end
