/-! THE MODEL (14): findNight, night, best, needed -/
theorem bRung_lt {P : zP} {wo : Nat} {b : Nat → Nat} (h : bLaw P wo b) : bRung b 4 ≤ 24 := bRung_le 4
theorem nMost_24 {P : zP} (okp : okP P) (wo : Nat) : nMost P wo ≤ 24 := by
  obtain ⟨c, c1, c2, c3⟩ := nMost_at P wo
  rw [← c3]
  exact bRung_le (b := nS c) 4
theorem bMax_all {P : zP} (okp : okP P) : ∀ b, bLaw P 0 b → bRung b 4 ≤ nMost P 0 := fun b hb => by
  have h64 : ∀ g, g < 4 → b g < 64 := fun g hg => (hb g hg).1.1
  have h3 := nRung_most (nEnc_lt h64) (bLaw_enc okp hb)
  have e3 : nRung (nEnc b) = bRung b 4 := bRung_congr (fun g hg => nS_enc h64 hg)
  rw [← e3]
  exact h3
theorem bMax_some {P : zP} (okp : okP P) : ∃ b, bMax P (nMost P 0) b := by
  obtain ⟨c, c1, c2, c3⟩ := nMost_at P 0
  exact ⟨nS c, (bLaw_code okp).mpr c2, c3⟩
theorem bMax_code {P : zP} (okp : okP P) {c : Nat} : bMax P (nMost P 0) (nS c) ↔ nTopLaw P c = true := by
  unfold bMax nTopLaw
  rw [Bool.and_eq_true, decide_eq_true_eq, bLaw_code okp]
  rfl
theorem zo1_or (b : Nat → Nat) : ∀ k, zo1 b k = zor b k
  | 0 => rfl
  | k + 1 => by rw [zo1, zor, zo1_or b k]
/-- what is best by the nights gone through is best by their keys -/
theorem few_is {P : zP} {tw : Nat} {x : (Nat → Nat) × Nat × Nat} (okp : okP P) (hx : wFrom P (nMost P 0) x) (hg : ∀ b, bMax P (nMost P 0) b → wGood P tw x b) : nFew P = x.2.1 := by
  obtain ⟨-, ⟨b, hb, e⟩, -⟩ := hx
  have h64 : ∀ g, g < 4 → b g < 64 := fun g hg => (hb.1 g hg).1.1
  have hb2 : bMax P (nMost P 0) (nS (nEnc b)) := (bMax_congr okp (fun g hg => nS_enc h64 hg)).mpr hb
  refine Nat.le_antisymm ?_ ?_
  · refine Nat.le_trans (zmn_le (nEnc_lt h64) ((bMax_code okp).mp hb2)) ?_
    rw [e]
    show zpop (zor (nS (nEnc b)) 4) ≤ _
    rw [← zo1_or, (zo_congr (fun g hg => nS_enc h64 hg)).1]
    exact Nat.le_refl _
  · obtain ⟨c, c1, c2, c3⟩ := nTop_at okp (fun c => zpop (nOr c)) (fun c => Nat.le_trans (zpop_le _) (by decide))
    have := (hg _ ((bMax_code okp).mpr c2)).2.1
    rw [zo1_or] at this
    exact Nat.le_trans this (Nat.le_of_eq c3)
theorem even_is {P : zP} {tw : Nat} {x : (Nat → Nat) × Nat × Nat} (okp : okP P) (hx : wFrom P (nMost P 0) x) (hg : ∀ b, bMax P (nMost P 0) b → wGood P tw x b) : nEven P = x.2.2 := by
  obtain ⟨-, -, ⟨b, hb, e⟩⟩ := hx
  have h64 : ∀ g, g < 4 → b g < 64 := fun g hg => (hb.1 g hg).1.1
  have hb2 : bMax P (nMost P 0) (nS (nEnc b)) := (bMax_congr okp (fun g hg => nS_enc h64 hg)).mpr hb
  refine Nat.le_antisymm ?_ ?_
  · refine Nat.le_trans (zmn_le (nEnc_lt h64) ((bMax_code okp).mp hb2)) ?_
    rw [e]
    refine Nat.le_of_eq ?_
    show bTop (nS (nEnc b)) = bTop b
    unfold bTop
    congr 1
    funext r
    exact zcnt_congr (fun g hg => by rw [nS_enc h64 hg])
  · obtain ⟨c, c1, c2, c3⟩ := nTop_at okp nTop (fun c => Nat.le_trans (bTop_le (nS c)) (by decide))
    have := (hg _ ((bMax_code okp).mpr c2)).2.2
    exact Nat.le_trans this (Nat.le_of_eq c3)
theorem key_is {P : zP} {tw : Nat} {x : (Nat → Nat) × Nat × Nat} (okp : okP P) (htw : tw ≤ 60) (hx : wFrom P (nMost P 0) x) (hg : ∀ b, bMax P (nMost P 0) b → wGood P tw x b) : ∃ c, nBest P tw = (pAll P - nMost P 0) * 2 ^ 59 + bWalk P tw x.1 * 2 ^ 48 + bCod (bX P x.1) ∧ bWalk P tw x.1 * 2 ^ 48 + bCod (bX P x.1) < 2 ^ 59 ∧ nKey P tw c = nBest P tw ∧ nCode P c = bCod (bX P x.1) := by
  obtain ⟨c, c1, c2, c3, c4⟩ := nBest_at okp htw
  have hc : bMax P (nMost P 0) (nS c) := ⟨(bLaw_code okp).mpr c2, c4⟩
  have hgc := (hg _ hc).1
  obtain ⟨hb, -, -⟩ := hx
  have h64 : ∀ g, g < 4 → x.1 g < 64 := fun g hg => (hb.1 g hg).1.1
  have hl := bLaw_enc okp hb.1
  have hmin : nBest P tw ≤ nKey P tw (nEnc x.1) := zmn_le (nEnc_lt h64) hl
  have k1 := nKey_lt okp htw c2
  have e1 : nWalk P tw c = bWalk P tw (nS c) := rfl
  have e2 : nCode P c = bCod (bX P (nS c)) := rfl
  have e3 : nWalk P tw (nEnc x.1) = bWalk P tw x.1 := zsum_congr (fun g hg => by rw [nS_enc h64 hg])
  have e4 : nCode P (nEnc x.1) = bCod (bX P x.1) := zsum_congr (fun g hg => by unfold bX; rw [nS_enc h64 hg])
  have e5 : nRung (nEnc x.1) = nMost P 0 := (bRung_congr (fun g hg => nS_enc h64 hg)).trans hb.2
  have l1 := bCod_lt (bX P (nS c))
  have l2 := bCod_lt (bX P x.1)
  have ek : nKey P tw c = (pAll P - nMost P 0) * 2 ^ 59 + bWalk P tw (nS c) * 2 ^ 48 + bCod (bX P (nS c)) := by
    unfold nKey
    rw [c4, e1, e2]
  have ek2 : nKey P tw (nEnc x.1) = (pAll P - nMost P 0) * 2 ^ 59 + bWalk P tw x.1 * 2 ^ 48 + bCod (bX P x.1) := by
    unfold nKey
    rw [e5, e3, e4]
  rw [← c3, ek, ek2] at hmin
  rw [e1, e2] at k1
  unfold bLess at hgc
  have key : bWalk P tw (nS c) = bWalk P tw x.1 ∧ bCod (bX P (nS c)) = bCod (bX P x.1) := by
    clear ek ek2 c3 c4 e5 hc hg hb hl
    generalize bWalk P tw (nS c) = w1 at *
    generalize bWalk P tw x.1 = w2 at *
    generalize bCod (bX P (nS c)) = d1 at *
    generalize bCod (bX P x.1) = d2 at *
    generalize pAll P - nMost P 0 = a at *
    omega
  refine ⟨c, ?_, ?_, c3, ?_⟩
  · rw [← c3, ek, key.1, key.2]
  · rw [← key.1, ← key.2]; exact k1
  · rw [e2, key.2]
theorem night_is {P : zP} {tw : Nat} {x : (Nat → Nat) × Nat × Nat} (okp : okP P) (htw : tw ≤ 60) (hx : wFrom P (nMost P 0) x) (hg : ∀ b, bMax P (nMost P 0) b → wGood P tw x b) : nBest P tw / 2 ^ 59 = pAll P - nMost P 0 ∧ nBest P tw / 2 ^ 48 % 2 ^ 11 = bWalk P tw x.1 ∧ ∀ r g, r < 6 → g < 4 → nBell P tw r g = bX P x.1 g / 4 ^ r % 4 := by
  obtain ⟨c, h1, h2, h3, h4⟩ := key_is okp htw hx hg
  have hc := bCod_lt (bX P x.1)
  refine ⟨?_, ?_, fun r g hr hg4 => ?_⟩
  · rw [h1]
    generalize bWalk P tw x.1 = w2 at *
    generalize bCod (bX P x.1) = d2 at *
    generalize pAll P - nMost P 0 = a at *
    omega
  · rw [h1]
    generalize bWalk P tw x.1 = w2 at *
    generalize bCod (bX P x.1) = d2 at *
    generalize pAll P - nMost P 0 = a at *
    omega
  · have e : nBell P tw r g = nDig P c r g := by
      unfold nBell
      rw [← h3]
      exact nKey_dig hr hg4
    rw [e, ← nCode_dig P c hr hg4, h4, bCod_digs, zdigs 24 (fun k => bX P x.1 ((23 - k) % 4) / 4 ^ ((23 - k) / 4) % 4) (23 - (4 * r + g)) (fun k _ => Nat.mod_lt _ (by decide)) (by omega)]
    rw [show 23 - (23 - (4 * r + g)) = 4 * r + g by omega, show (4 * r + g) / 4 = r by omega, show (4 * r + g) % 4 = g by omega]
section
variable {K : zK} {l : Launch} {n p q r g k s : Nat} {h h1 h2 h3 hb : zH} {x y z : Int32} {G : zS} {P : zP} {f : Nat → Int32} {T : zT} {tr : Int64} {ty : Int32} {X : zX} {pk se on tw th ru br rw : Nat → Int32} {wo : Nat} {at_ st so va fa to mo wa fe ev : Int32}
theorem isW.rel {W : zW} (hM : mRel h2 G) (hS : isW h2 h3 (gTr G) (nI (gLen G)) X W pk se on tw th ru rw) (z0 : on 0 = 0 ∧ tw 0 = 0 ∧ th 0 = 0 ∧ ru 0 = 0) : mRel h3 G := by
  obtain ⟨X0, f0, kf, h34, ht, hP, h46, hN, h47, hkf, hI, ⟨⟨r1, c1⟩, ⟨r2, c2⟩, ⟨r3, c3⟩, -⟩⟩ := id hM
  obtain ⟨s1, s2, s3, s4, s5, s6, s7, s8, s9, s10⟩ := hS
  exact hM.work (fun k k1 k2 => s10 k k1 (by omega)) s1 ⟨⟨r1, (s10 48 (by omega) (by omega)).trans c1⟩, ⟨r2, (s10 49 (by omega) (by omega)).trans c2⟩, ⟨r3, (s10 50 (by omega) (by omega)).trans c3⟩, ⟨_, s2⟩, ⟨_, s3⟩, ⟨_, s4, z0.1⟩, ⟨_, s5, z0.2.1⟩, ⟨_, s6, z0.2.2.1⟩, ⟨_, s7, z0.2.2.2⟩, ⟨_, s8⟩, ⟨_, s9⟩⟩
theorem isW.same {W : zW} {cr bo cm : Nat → Int32} (hf : fcH h h2 cr bo cm) (hS : isW h2 h3 tr ty X W pk se on tw th ru rw) : zSame 34 58 h h3 := fun k hk => by
  obtain ⟨s1, s2, s3, s4, s5, s6, s7, s8, s9, s10⟩ := hS
  rw [s10 k (by omega) (by omega)]
  exact hf.2.2.2 k (by omega)
theorem isW.first {cr bo cm : Nat → Int32} (hM : mRel h G) (hf : fcH h h2 cr bo cm) : ∃ X W pk se on tw th ru rw, isW h2 h2 (gTr G) (nI (gLen G)) X W pk se on tw th ru rw ∧ (on 0 = 0 ∧ tw 0 = 0 ∧ th 0 = 0 ∧ ru 0 = 0) := by
  obtain ⟨⟨at_, st, so, va, fa, to, mo, wa, fe, ev⟩, f, kf, h34, ht, hP, h46, hN, h47, hkf, hI, hR⟩ := id hM
  obtain ⟨-, -, -, ⟨r4, c4⟩, ⟨r5, c5⟩, ⟨r6, c6, d6⟩, ⟨r7, c7, d7⟩, ⟨r8, c8, d8⟩, ⟨r9, c9, d9⟩, ⟨r10, c10⟩, ⟨r11, c11⟩⟩ := hR.fc hf
  exact ⟨(at_, st, so, va, fa, to, mo, wa, fe, ev), (mo, wa, fe, ev, r10), r4, r5, r6, r7, r8, r9, r11, ⟨(hf.2.2.2 34 (by omega)).trans h34, c4, c5, c6, c7, c8, c9, c10, c11, fun _ _ _ => rfl⟩, d6, d7, d8, d9⟩
theorem r_X6_findNight {M : Nat} (hM : mRel h G) (ok : okS G) (eM : nMost (gP G) 0 = M) : zRex K l 6 mX6_findNight [.ref 34] 59 h (fun v h' => v = none ∧ mRel h' G ∧ zSame 34 58 h h' ∧ ∃ at_ st so va fa to br q, h' 34 = mObj (gTr G) (nI (gLen G)) (at_, st, so, va, fa, to, nI M, nI (bWalk (gP G) (gT G).2.1 q.1), nI q.2.1, nI q.2.2) ∧ h' 57 = .inl (0, 4, .inl br) ∧ (∀ g, g < 4 → br g = nI (bX (gP G) q.1 g)) ∧ wFrom (gP G) M q ∧ ∀ b, bMax (gP G) M b → wGood (gP G) (gT G).2.1 q b) := by
  refine zRex.of (by decide) (Nat.le_of_ble_eq_true rfl) (fun Q hQ => ?_)
  have hall := bMax_all ok.1
  have hsome := bMax_some ok.1
  have h24 := nMost_24 ok.1 0
  rw [eM] at hall hsome h24
  have hmb := fun {h h2 : zH} {X : zX} {W : zW} {pk se on tw th ru rw cr bo cm : Nat → Int32} {L : Nat → List Nat} (a : mPar h2 (gP G)) b1 b2 b3 b4 c d => r_X6_mostBut (K := K) (l := l) (wo := 0) (hb := h2) (h := h) (tr := gTr G) (ty := nI (gLen G)) (X := X) (W := W) (pk := pk) (se := se) (on := on) (tw := tw) (th := th) (ru := ru) (rw := rw) (cr := cr) (bo := bo) (cm := cm) (L := L) ok.1 a b1 b2 b3 b4 c d
  rw [eM] at hmb
  clear eM
  obtain ⟨⟨at_, st, so, va, fa, to, mo, wa, fe, ev⟩, f, kf, h1, ⟨tx, hx, htx⟩, hP, h46, hN, h47, hkf, hI, hRm⟩ := id hM
  have hc : mCore h (gP G) f := ⟨⟨_, _, _, h1⟩, hP, h46⟩
  have h1 : h 34 = .inr _ := h1
  obtain ⟨⟨f1, a1, b1⟩, ⟨f2, a2, b2⟩, ⟨f3, a3, b3⟩, ⟨f4, a4, b4⟩, ⟨f5, a5, b5⟩, ⟨f6, a6, b6⟩, ⟨f7, a7, b7⟩, ⟨f8, a8⟩, ⟨f9, a9, b9⟩, ⟨f10, a10, b10⟩⟩ := id hP
  have okp := ok.1
  have okt := ok.2.1
  have kH := okp.1
  have kR := okp.2.1
  have kpl := okt.2.2.2.2.1
  refine kX6_findNight_0 ?_
  refine zb_go (zg_aload_n rfl) rfl ?_
  refine zb_callvx (r_X6_findCrews hc okp hRm) lX6_185 (by repeat (first | assumption | exact z_up_self _ _ _ | refine (z_up_ne (by first | decide | omega)).trans ?_)) rfl rfl (by first | decide | assumption | omega) (by first | decide | omega) rfl (Nat.le_of_ble_eq_true rfl) rfl ?_
  rintro v h2 ⟨rfl, cr, bo, cm, L, hf, hL⟩
  have hM2 := hM.crews hf
  have hP2 : mPar h2 (gP G) := hP.same hf.2.2.2 (by omega)
  have q46 : h2 46 = _ := (hf.2.2.2 46 (by omega)).trans h46
  obtain ⟨⟨at_, st, so, va, fa, to, mo, wa, fe, ev⟩, W, pk, se, on, tw, th, ru, rw, hS2, z2⟩ := isW.first hM hf
  have g2 : h2 34 = .inr _ := hS2.1
  refine zb_go (zg_aload_n rfl) rfl ?_
  refine zb_go (zg_iconst 0 (by decide)) rfl ?_
  refine zb_callvx (hmb hP2 hf.1 hf.2.1 hf.2.2.1 hL hS2 z2) lX6_221 (by repeat (first | assumption | exact z_up_self _ _ _ | refine (z_up_ne (by first | decide | omega)).trans ?_)) rfl rfl (by first | decide | assumption | omega) (by first | decide | omega) rfl (Nat.le_of_ble_eq_true rfl) rfl ?_
  rintro v h3 ⟨rfl, pk3, se3, on3, tw3, th3, ru3, rw3, hS3, z3⟩
  have g3 : h3 34 = .inr _ := hS3.1
  refine zb_go (zg_pop rfl) rfl ?_
  refine zb_go (zg_aload_n rfl) rfl ?_
  refine zb_go (zg_iconst (-1) (by decide)) rfl ?_
  refine zb_go (zg_putfield fX6_197 (by first | decide | assumption | omega) (by repeat (first | assumption | exact z_up_self _ _ _ | refine (z_up_ne (by first | decide | omega)).trans ?_)) (by exact Nat.le_of_ble_eq_true rfl) (by rfl) (by rfl) (by first | exact Or.inl rfl | exact Or.inr ⟨rfl, rfl⟩)) rfl ?_
  refine zb_go (zg_aload_n rfl) rfl ?_
  refine zb_go (zg_iconst (-1) (by decide)) rfl ?_
  refine zb_go (zg_putfield fX6_191 (by first | decide | assumption | omega) (by repeat (first | assumption | exact z_up_self _ _ _ | refine (z_up_ne (by first | decide | omega)).trans ?_)) (by exact Nat.le_of_ble_eq_true rfl) (by rfl) (by rfl) (by first | exact Or.inl rfl | exact Or.inr ⟨rfl, rfl⟩)) rfl ?_
  refine zb_go (zg_aload_n rfl) rfl ?_
  refine zb_go (zg_iconst (-1) (by decide)) rfl ?_
  refine zb_go (zg_putfield fX6_194 (by first | decide | assumption | omega) (by repeat (first | assumption | exact z_up_self _ _ _ | refine (z_up_ne (by first | decide | omega)).trans ?_)) (by exact Nat.le_of_ble_eq_true rfl) (by rfl) (by rfl) (by first | exact Or.inl rfl | exact Or.inr ⟨rfl, rfl⟩)) rfl ?_
  rw [z_up_up, z_up_up]
  obtain ⟨h4, eh4⟩ : ∃ h4, h4 = z_up h3 34 (mObj (gTr G) (nI (gLen G)) (at_, st, so, va, fa, to, nI M, -1, -1, -1)) := ⟨_, rfl⟩
  change zGb K l 6 mX6_findNight _ _ _ _ 59 (z_up h3 34 (mObj (gTr G) (nI (gLen G)) (at_, st, so, va, fa, to, nI M, -1, -1, -1))) 0 0 Q
  rw [← eh4]
  have hS4 : isW h2 h4 (gTr G) (nI (gLen G)) (at_, st, so, va, fa, to, mo, wa, fe, ev) (nI M, -1, -1, -1, W.2.2.2.2) pk3 se3 on3 tw3 th3 ru3 rw3 := by
    obtain ⟨d34, d51, d52, d53, d54, d55, d56, d57, d58, hsm0⟩ := hS3
    rw [eh4]
    exact ⟨z_up_self _ _ _, (z_up_ne (by decide)).trans d51, (z_up_ne (by decide)).trans d52, (z_up_ne (by decide)).trans d53, (z_up_ne (by decide)).trans d54, (z_up_ne (by decide)).trans d55, (z_up_ne (by decide)).trans d56, (z_up_ne (by decide)).trans d57, (z_up_ne (by decide)).trans d58, fun j hj1 hj2 => (z_up_ne hj1).trans (hsm0 j hj1 hj2)⟩
  clear eh4
  have g4 : h4 34 = .inr _ := hS4.1
  have hgo := r_X6_goNights (K := K) (l := l) (M := M) okp hP2 q46 hN.2.1 kpl hf.1 hf.2.1 hf.2.2.1 hL hall (by omega) hS4 z3 ⟨rfl, rfl, rfl, rfl⟩
  refine zb_go (zg_aload_n rfl) rfl ?_
  refine zb_go (zg_iconst 0 (by decide)) rfl ?_
  refine zb_go (zg_iconst 0 (by decide)) rfl ?_
  refine zb_callvx hgo lX6_217 (by repeat (first | assumption | exact z_up_self _ _ _ | refine (z_up_ne (by first | decide | omega)).trans ?_)) rfl rfl (by first | decide | assumption | omega) (by first | decide | omega) rfl (Nat.le_of_ble_eq_true rfl) rfl ?_
  rintro v h5 ⟨rfl, ⟨W1, W2, W3, W4, W5⟩, pk5, se5, on5, tw5, th5, ru5, rw5, hS5, ⟨i1, o, i2, i3⟩, z5, hD⟩
  obtain ⟨b0, hb0⟩ := hsome
  obtain ⟨x0, x1, x2⟩ := hD b0 hb0.1 hb0
  obtain ⟨q, rfl⟩ := wV_some okp kpl x1 i2
  have hgood : ∀ b, bMax (gP G) M b → wGood (gP G) (gT G).2.1 q b := fun b hb => by
    obtain ⟨y, y1, y2⟩ := hD b hb.1 hb
    exact wGood_eq (wV_uniq okp kpl y1 i2) y2
  obtain ⟨qb, qf, qe⟩ := q
  obtain ⟨v1, v2, v3, v4, v5, v6⟩ := i2
  refine zb_end (zg_return rfl ?_) rfl
  have i1 : W1 = nI M := i1
  subst i1
  have v1 : W2 = _ := v1
  have v3 : W3 = _ := v3
  have v4 : W4 = _ := v4
  subst v1 v3 v4
  exact hQ _ _ ⟨rfl, hS5.rel hM2 z5, hS5.same hf, at_, st, so, va, fa, to, W5, (qb, qf, qe), hS5.1, hS5.2.2.2.2.2.2.2.1, v2, i3 _ rfl, hgood⟩
theorem sNight_eq {M : Nat} {q : (Nat → Nat) × Nat × Nat} (ok : okS G) (eM : nMost (gP G) 0 = M) (hx : wFrom (gP G) M q) (hg : ∀ b, bMax (gP G) M b → wGood (gP G) (gT G).2.1 q b) : sNight G x = zite (0 ≤ x ∧ x ≤ 3) (if x = 0 then nI (pAll (gP G)) - nI M else if x = 1 then nI (bWalk (gP G) (gT G).2.1 q.1) else if x = 2 then nI q.2.1 else nI q.2.2) (-1) := by
  have kpl := ok.2.1.2.2.2.2.1
  subst eM
  obtain ⟨e1, e2, -⟩ := night_is ok.1 kpl hx hg
  have e3 := few_is ok.1 hx hg
  have e4 := even_is ok.1 hx hg
  unfold sNight
  rw [e1, e2, e3, e4, pk_sub (nMost_le ok.1)]
theorem sBest_eq {M r g : Nat} {q : (Nat → Nat) × Nat × Nat} (ok : okS G) (eM : nMost (gP G) 0 = M) (hr : r < 6) (hg4 : g < 4) (hx : wFrom (gP G) M q) (hg : ∀ b, bMax (gP G) M b → wGood (gP G) (gT G).2.1 q b) : sBell (gP G) (gT G).2.1 r g = if bX (gP G) q.1 g / 4 ^ r % 4 = 0 then -9 else nI (bX (gP G) q.1 g / 4 ^ r % 4 - 1) := by
  have kpl := ok.2.1.2.2.2.2.1
  subst eM
  obtain ⟨-, -, e⟩ := night_is ok.1 kpl hx hg
  unfold sBell
  rw [e r g hr hg4]
theorem r_X6_night (hM : mRel h G) (ok : okS G) : zRex K l 7 mX6_night [.ref 34, .int x] 59 h (fun v h' => v = some (.int (sNight G x)) ∧ mRel h' G ∧ zSame 34 58 h h') := by
  refine zRex.of (by decide) (Nat.le_of_ble_eq_true rfl) (fun Q hQ => ?_)
  obtain ⟨M, eM⟩ : ∃ M, nMost (gP G) 0 = M := ⟨_, rfl⟩
  have hfn := r_X6_findNight (K := K) (l := l) hM ok eM
  have hse := fun {q} => sNight_eq (x := x) (M := M) (q := q) ok eM
  have h0 : ¬ (0 ≤ x ∧ x ≤ 3) → sNight G x = -1 := fun hn => by unfold sNight; exact zite_f hn
  clear eM
  obtain ⟨sN, esN⟩ : ∃ sN, sNight G x = sN := ⟨_, rfl⟩
  rw [esN] at hQ h0 hse
  clear esN
  obtain ⟨⟨at_, st, so, va, fa, to, mo, wa, fe, ev⟩, f, kf, h1, ⟨tx, hx, htx⟩, hP, h46, hN, h47, hkf, hI, hRm⟩ := id hM
  have hc : mCore h (gP G) f := ⟨⟨_, _, _, h1⟩, hP, h46⟩
  have h1 : h 34 = .inr _ := h1
  obtain ⟨⟨f1, a1, b1⟩, ⟨f2, a2, b2⟩, ⟨f3, a3, b3⟩, ⟨f4, a4, b4⟩, ⟨f5, a5, b5⟩, ⟨f6, a6, b6⟩, ⟨f7, a7, b7⟩, ⟨f8, a8⟩, ⟨f9, a9, b9⟩, ⟨f10, a10, b10⟩⟩ := id hP
  have okp := ok.1
  have okt := ok.2.1
  have kH := okp.1
  have kR := okp.2.1
  by_cases hx : 0 ≤ x ∧ x ≤ 3
  · refine kX6_night_0 ?_
    refine zb_go (zg_iload_n rfl) rfl ?_
    refine zb_go (zg_iconst 0 (by decide)) rfl ?_
    refine zb_go (zg_iconst 3 (by decide)) rfl ?_
    refine zb_calls (r_X6_inT hx) lX6_87 rfl (by first | decide | omega) rfl (Nat.le_of_ble_eq_true rfl) rfl ?_
    refine zb_br (zg_if_ne (tgt := 11) (by decide)) rfl (fun c0 => ?_) (fun c0 => ?_)
    · refine kX6_night_11 ?_
      refine zb_go (zg_aload_n rfl) rfl ?_
      refine zb_callvx hfn lX6_224 (by repeat (first | assumption | exact z_up_self _ _ _ | refine (z_up_ne (by first | decide | omega)).trans ?_)) rfl rfl (by first | decide | assumption | omega) (by first | decide | omega) rfl (Nat.le_of_ble_eq_true rfl) rfl ?_
      rintro v h2 ⟨rfl, hM2, s2, a1, a2, a3, a4, a5, a6, br, q, g34, g57, hbr, hq1, hq2⟩
      have e := hse hq1 hq2
      rw [zite_t hx] at e
      subst e
      have g34' := g34
      have g34 : h2 34 = .inr _ := g34
      obtain ⟨f2, hc2, hN2⟩ := hM2.core
      refine zb_go (zg_iload_n rfl) rfl ?_
      refine zb_br (zg_if_ne (tgt := 31) (by decide)) rfl (fun c1 => ?_) (fun c1 => ?_)
      · rw [if_neg c1] at hQ
        refine kX6_night_31 ?_
        refine zb_go (zg_iload_n rfl) rfl ?_
        refine zb_go (zg_iconst 1 (by decide)) rfl ?_
        refine zb_br (zg_icmp_ne (tgt := 43) (by decide)) rfl (fun c2 => ?_) (fun c2 => ?_)
        · rw [if_neg c2] at hQ
          refine kX6_night_43 ?_
          refine zb_go (zg_iload_n rfl) rfl ?_
          refine zb_go (zg_iconst 2 (by decide)) rfl ?_
          refine zb_br (zg_icmp_ne (tgt := 55) (by decide)) rfl (fun c3 => ?_) (fun c3 => ?_)
          · rw [if_neg c3] at hQ
            refine kX6_night_55 ?_
            refine zb_go (zg_aload_n rfl) rfl ?_
            refine zb_go (zg_getfield fX6_194 (by first | decide | assumption | omega) (by repeat (first | assumption | exact z_up_self _ _ _ | refine (z_up_ne (by first | decide | omega)).trans ?_)) (by rfl)) rfl ?_
            refine zb_out ?_
            refine kX6_night_59 ?_
            refine zb_end (zg_ireturn rfl (by rfl) ?_) rfl
            exact hQ _ _ ⟨rfl, hM2, s2⟩
          · rw [if_pos c3] at hQ
            refine zb_go (zg_aload_n rfl) rfl ?_
            refine zb_go (zg_getfield fX6_191 (by first | decide | assumption | omega) (by repeat (first | assumption | exact z_up_self _ _ _ | refine (z_up_ne (by first | decide | omega)).trans ?_)) (by rfl)) rfl ?_
            refine zb_end (zg_goto (tgt := 59) (by decide) ?_) rfl
            refine kX6_night_59 ?_
            refine zb_end (zg_ireturn rfl (by rfl) ?_) rfl
            exact hQ _ _ ⟨rfl, hM2, s2⟩
        · rw [if_pos c2] at hQ
          refine zb_go (zg_aload_n rfl) rfl ?_
          refine zb_go (zg_getfield fX6_197 (by first | decide | assumption | omega) (by repeat (first | assumption | exact z_up_self _ _ _ | refine (z_up_ne (by first | decide | omega)).trans ?_)) (by rfl)) rfl ?_
          refine zb_end (zg_goto (tgt := 59) (by decide) ?_) rfl
          refine kX6_night_59 ?_
          refine zb_end (zg_ireturn rfl (by rfl) ?_) rfl
          exact hQ _ _ ⟨rfl, hM2, s2⟩
      · rw [if_pos c1] at hQ
        refine zb_go (zg_aload_n rfl) rfl ?_
        refine zb_callv (r_X6_allWanted hc2 okp) lX6_173 (by repeat (first | assumption | exact z_up_self _ _ _ | refine (z_up_ne (by first | decide | omega)).trans ?_)) rfl rfl (by first | decide | assumption | omega) (by first | decide | omega) rfl (Nat.le_of_ble_eq_true rfl) rfl ?_
        refine zb_go (zg_aload_n rfl) rfl ?_
        refine zb_go (zg_getfield fX6_188 (by first | decide | assumption | omega) (by repeat (first | assumption | exact z_up_self _ _ _ | refine (z_up_ne (by first | decide | omega)).trans ?_)) (by rfl)) rfl ?_
        refine zb_go zg_isub rfl ?_
        refine zb_end (zg_goto (tgt := 59) (by decide) ?_) rfl
        refine kX6_night_59 ?_
        refine zb_end (zg_ireturn rfl (by rfl) ?_) rfl
        exact hQ _ _ ⟨rfl, hM2, s2⟩
    · exact absurd c0 (by decide)
  · rw [h0 hx] at hQ
    refine kX6_night_0 ?_
    refine zb_go (zg_iload_n rfl) rfl ?_
    refine zb_go (zg_iconst 0 (by decide)) rfl ?_
    refine zb_go (zg_iconst 3 (by decide)) rfl ?_
    refine zb_calls (r_X6_inF hx) lX6_87 rfl (by first | decide | omega) rfl (Nat.le_of_ble_eq_true rfl) rfl ?_
    refine zb_br (zg_if_ne (tgt := 11) (by decide)) rfl (fun c0 => ?_) (fun c0 => ?_)
    · exact absurd rfl c0
    · refine zb_go (zg_iconst (-1) (by decide)) rfl ?_
      refine zb_end (zg_ireturn rfl (by rfl) ?_) rfl
      exact hQ _ _ ⟨rfl, hM, zSame.rf⟩
theorem r_X6_best (hM : mRel h G) (ok : okS G) : zRex K l 7 mX6_best [.ref 34, .int x, .int y] 59 h (fun v h' => v = some (.int (sBest G x y)) ∧ mRel h' G ∧ zSame 34 58 h h') := by
  refine zRex.of (by decide) (Nat.le_of_ble_eq_true rfl) (fun Q hQ => ?_)
  obtain ⟨M, eM⟩ : ∃ M, nMost (gP G) 0 = M := ⟨_, rfl⟩
  have hfn := r_X6_findNight (K := K) (l := l) hM ok eM
  have hse := fun {r g q} => sBest_eq (r := r) (g := g) (M := M) (q := q) ok eM
  clear eM
  have h0 : ¬ (iR G x ∧ iH G y) → sBest G x y = -1 := fun hn => by unfold sBest; exact zite_f hn
  have h1b : iR G x ∧ iH G y → sBest G x y = sBell (gP G) (gT G).2.1 x.toNatClampNeg y.toNatClampNeg := fun hn => by unfold sBest; exact zite_t hn
  obtain ⟨sN, esN⟩ : ∃ sN, sBest G x y = sN := ⟨_, rfl⟩
  rw [esN] at hQ h0 h1b
  clear esN
  obtain ⟨⟨at_, st, so, va, fa, to, mo, wa, fe, ev⟩, f, kf, h1, ⟨tx, hx, htx⟩, hP, h46, hN, h47, hkf, hI, hRm⟩ := id hM
  have hc : mCore h (gP G) f := ⟨⟨_, _, _, h1⟩, hP, h46⟩
  have h1 : h 34 = .inr _ := h1
  obtain ⟨⟨f1, a1, b1⟩, ⟨f2, a2, b2⟩, ⟨f3, a3, b3⟩, ⟨f4, a4, b4⟩, ⟨f5, a5, b5⟩, ⟨f6, a6, b6⟩, ⟨f7, a7, b7⟩, ⟨f8, a8⟩, ⟨f9, a9, b9⟩, ⟨f10, a10, b10⟩⟩ := id hP
  have okp := ok.1
  have okt := ok.2.1
  have kH := okp.1
  have kR := okp.2.1
  have bad : ¬ (iR G x ∧ iH G y) → zGo K l 7 mX6_best 16 (lv_args 0 [.ref 34, .int x, .int y]) [] 59 h 0 0 Q := by
    intro hn
    refine kX6_best_16 ?_
    refine zb_go (zg_iconst (-1) (by decide)) rfl ?_
    refine zb_end (zg_ireturn rfl (by rfl) ?_) rfl
    have := h0 hn
    subst this
    exact hQ _ _ ⟨rfl, hM, zSame.rf⟩
  refine kX6_best_0 ?_
  refine zb_go (zg_aload_n rfl) rfl ?_
  refine zb_go (zg_iload_n rfl) rfl ?_
  refine zb_callv (r_X6_isRinger hc okp) lX6_153 (by repeat (first | assumption | exact z_up_self _ _ _ | refine (z_up_ne (by first | decide | omega)).trans ?_)) rfl rfl (by first | decide | assumption | omega) (by first | decide | omega) rfl (Nat.le_of_ble_eq_true rfl) rfl ?_
  refine zb_br (zg_if_eq (tgt := 16) (by decide)) rfl (fun c0 => ?_) (fun c0 => ?_)
  · exact bad (fun q => zb_0.mp c0 q.1)
  · have c0 := zb_n.mp c0
    refine zb_go (zg_aload_n rfl) rfl ?_
    refine zb_go (zg_iload_n rfl) rfl ?_
    refine zb_callv (r_X6_isHour hc okp) lX6_137 (by repeat (first | assumption | exact z_up_self _ _ _ | refine (z_up_ne (by first | decide | omega)).trans ?_)) rfl rfl (by first | decide | assumption | omega) (by first | decide | omega) rfl (Nat.le_of_ble_eq_true rfl) rfl ?_
    refine zb_br (zg_if_ne (tgt := 18) (by decide)) rfl (fun c1 => ?_) (fun c1 => ?_)
    · have c1 := zb_n.mp c1
      have e0 := h1b ⟨c0, c1⟩
      obtain ⟨r, hr, rfl⟩ := z_isIx (by omega) c0
      obtain ⟨g, hg, rfl⟩ := z_isIx (by omega) c1
      rw [nI_clamp (by omega), nI_clamp (by omega)] at e0
      have hr6 : r < 6 := by omega
      have hg4 : g < 4 := by omega
      refine kX6_best_18 ?_
      refine zb_go (zg_aload_n rfl) rfl ?_
      refine zb_callvx hfn lX6_224 (by repeat (first | assumption | exact z_up_self _ _ _ | refine (z_up_ne (by first | decide | omega)).trans ?_)) rfl rfl (by first | decide | assumption | omega) (by first | decide | omega) rfl (Nat.le_of_ble_eq_true rfl) rfl ?_
      rintro v h2 ⟨rfl, hM2, s2, a1, a2, a3, a4, a5, a6, br, q, g34, g57, hbr, hq1, hq2⟩
      rw [hse hr6 hg4 hq1 hq2] at e0
      have g34 : h2 34 = .inr _ := g34
      have i4 : zIx (nI g) 4 g := zIx.nI (by omega) (by decide)
      have l1 := bX_lt (P := gP G) (b := q.1) (g := g)
      refine zb_go (zg_aload_n rfl) rfl ?_
      refine zb_go (zg_getfield fX6_78 (by first | decide | assumption | omega) (by repeat (first | assumption | exact z_up_self _ _ _ | refine (z_up_ne (by first | decide | omega)).trans ?_)) (by rfl)) rfl ?_
      refine zb_go (zg_iload_n rfl) rfl ?_
      refine zb_go (zi_iaload (by first | decide | assumption | omega) (by repeat (first | assumption | exact z_up_self _ _ _ | refine (z_up_ne (by first | decide | omega)).trans ?_)) i4) rfl ?_
      rw [hbr g hg4]
      refine zb_go (zg_iconst 2 (by decide)) rfl ?_
      refine zb_go (zg_iload_n rfl) rfl ?_
      refine zb_go zg_imul rfl ?_
      refine zb_go zg_ishr rfl ?_
      refine zb_go (zg_iconst 3 (by decide)) rfl ?_
      refine zb_go zg_iand rfl ?_
      rw [z_dig (by omega) hr6]
      obtain ⟨d, ed⟩ : ∃ d, bX (gP G) q.1 g / 4 ^ r % 4 = d := ⟨_, rfl⟩
      have hd : d < 4 := by rw [← ed]; exact Nat.mod_lt _ (by decide)
      rw [ed] at e0 ⊢
      refine zb_go (zg_istore_n (by decide)) rfl ?_
      refine zb_go (zg_iload_n rfl) rfl ?_
      refine zb_br (zg_if_ne (tgt := 44) (by decide)) rfl (fun c2 => ?_) (fun c2 => ?_)
      · have c2 : d ≠ 0 := fun w => c2 (by rw [w]; rfl)
        rw [if_neg c2] at e0
        subst e0
        refine kX6_best_44 ?_
        refine zb_go (zg_iload_n rfl) rfl ?_
        refine zb_go (zg_iconst 1 (by decide)) rfl ?_
        refine zb_go zg_isub rfl ?_
        refine zb_out ?_
        refine kX6_best_47 ?_
        refine zb_end (zg_ireturn rfl (by rfl) ?_) rfl
        rw [show nI d - 1 = nI (d - 1) from pk_sub (a := d) (b := 1) (by omega)]
        exact hQ _ _ ⟨rfl, hM2, s2⟩
      · have c2 : d = 0 := (nI_eq (b := 0) (by omega) (by decide)).mp c2
        rw [if_pos c2] at e0
        subst e0
        refine zb_go (zg_bipush (-9) (by decide)) rfl ?_
        refine zb_end (zg_goto (tgt := 47) (by decide) ?_) rfl
        refine kX6_best_47 ?_
        refine zb_end (zg_ireturn rfl (by rfl) ?_) rfl
        exact hQ _ _ ⟨rfl, hM2, s2⟩
    · refine zb_out ?_
      exact bad (fun q => zb_0.mp c1 q.2)
theorem r_X6_needed (hM : mRel h G) (ok : okS G) : zRex K l 6 mX6_needed [.ref 34] 59 h (fun v h' => v = some (.int (sNeed G)) ∧ mRel h' G ∧ zSame 34 58 h h') := by
  refine zRex.of (by decide) (Nat.le_of_ble_eq_true rfl) (fun Q hQ => ?_)
  obtain ⟨F, eF⟩ : ∃ F : Nat → Nat, nMost (gP G) = F := ⟨_, rfl⟩
  have hF : ∀ w, F w ≤ 24 := fun w => by rw [← eF]; exact nMost_24 ok.1 w
  have hmb := fun {h h2 : zH} {X : zX} {W : zW} {wo : Nat} {pk se on tw th ru rw cr bo cm : Nat → Int32} {L : Nat → List Nat} (a : mPar h2 (gP G)) b1 b2 b3 b4 c d => r_X6_mostBut (K := K) (l := l) (wo := wo) (hb := h2) (h := h) (tr := gTr G) (ty := nI (gLen G)) (X := X) (W := W) (pk := pk) (se := se) (on := on) (tw := tw) (th := th) (ru := ru) (rw := rw) (cr := cr) (bo := bo) (cm := cm) (L := L) ok.1 a b1 b2 b3 b4 c d
  have eN : nNeed (gP G) = zbits (fun r => decide (F (1 <<< r) < F 0)) (pR (gP G)) := by rw [← eF]; rfl
  rw [sNeed, eN] at hQ
  rw [eF] at hmb
  clear eN eF
  obtain ⟨⟨at_, st, so, va, fa, to, mo, wa, fe, ev⟩, f, kf, h1, ⟨tx, hx, htx⟩, hP, h46, hN, h47, hkf, hI, hRm⟩ := id hM
  have hc : mCore h (gP G) f := ⟨⟨_, _, _, h1⟩, hP, h46⟩
  have h1 : h 34 = .inr _ := h1
  obtain ⟨⟨f1, a1, b1⟩, ⟨f2, a2, b2⟩, ⟨f3, a3, b3⟩, ⟨f4, a4, b4⟩, ⟨f5, a5, b5⟩, ⟨f6, a6, b6⟩, ⟨f7, a7, b7⟩, ⟨f8, a8⟩, ⟨f9, a9, b9⟩, ⟨f10, a10, b10⟩⟩ := id hP
  have okp := ok.1
  have okt := ok.2.1
  have kH := okp.1
  have kR := okp.2.1
  refine kX6_needed_0 ?_
  refine zb_go (zg_aload_n rfl) rfl ?_
  refine zb_callvx (r_X6_findCrews hc okp hRm) lX6_185 (by repeat (first | assumption | exact z_up_self _ _ _ | refine (z_up_ne (by first | decide | omega)).trans ?_)) rfl rfl (by first | decide | assumption | omega) (by first | decide | omega) rfl (Nat.le_of_ble_eq_true rfl) rfl ?_
  rintro v h2 ⟨rfl, cr, bo, cm, L, hf, hL⟩
  have hM2 := hM.crews hf
  have hP2 : mPar h2 (gP G) := hP.same hf.2.2.2 (by omega)
  have q38 : h2 38 = _ := (hf.2.2.2 38 (by omega)).trans a3
  obtain ⟨X, W, pk, se, on, tw, th, ru, rw, hS2, z2⟩ := isW.first hM hf
  have gobj : ∀ {h5 W pk se on tw th ru rw}, isW h2 h5 (gTr G) (nI (gLen G)) X W pk se on tw th ru rw → ∃ fs, h5 34 = .inr (5, fs) ∧ fs[5]? = some (.ref 38) := fun hs => by
    obtain ⟨at_, st, so, va, fa, to, mo, wa, fe, ev⟩ := X
    exact ⟨_, hs.1, rfl⟩
  obtain ⟨fs2, g2, -⟩ := gobj hS2
  refine zb_go (zg_aload_n rfl) rfl ?_
  refine zb_go (zg_iconst 0 (by decide)) rfl ?_
  refine zb_callvx (hmb (wo := 0) hP2 hf.1 hf.2.1 hf.2.2.1 hL hS2 z2) lX6_221 (by repeat (first | assumption | exact z_up_self _ _ _ | refine (z_up_ne (by first | decide | omega)).trans ?_)) rfl rfl (by first | decide | assumption | omega) (by first | decide | omega) rfl (Nat.le_of_ble_eq_true rfl) rfl ?_
  rintro v h3 ⟨rfl, pk3, se3, on3, tw3, th3, ru3, rw3, hS3, z3⟩
  have lp : ∀ k, k ≤ pR (gP G) → ∀ h5 W5 pk5 se5 on5 tw5 th5 ru5 rw5, isW h2 h5 (gTr G) (nI (gLen G)) X W5 pk5 se5 on5 tw5 th5 ru5 rw5 → (on5 0 = 0 ∧ tw5 0 = 0 ∧ th5 0 = 0 ∧ ru5 0 = 0) → zGo K l 6 mX6_needed 14 [(0, .ref 34), (1, .int (nI (F 0))), (2, .int (nI (zbits (fun r => decide (F (1 <<< r) < F 0)) k))), (3, .int (nI k))] [] 59 h5 0 0 Q := by
    refine z_down (pR (gP G)) (fun k hk ih h5 W5 pk5 se5 on5 tw5 th5 ru5 rw5 hS5 z5 => ?_)
    obtain ⟨fs5, g5, k5⟩ := gobj hS5
    have c38 : h5 38 = _ := (hS5.2.2.2.2.2.2.2.2.2 38 (by omega) (by omega)).trans q38
    refine kX6_needed_14 ?_
    refine zb_go (zg_iload_n rfl) rfl ?_
    refine zb_go (zg_aload_n rfl) rfl ?_
    refine zb_go (zg_getfield fX6_20 (by decide) g5 k5) rfl ?_
    refine zb_go (zg_iconst 0 (by decide)) rfl ?_
    refine zb_go (zi_iaload (by first | decide | assumption | omega) (by repeat (first | assumption | exact z_up_self _ _ _ | refine (z_up_ne (by first | decide | omega)).trans ?_)) (by first | assumption | exact zIx.nI (by omega) (by decide) | exact ⟨by decide, by decide⟩ | exact zIx.nI (k := 0) (by decide) (by decide) | exact zIx.nI (k := 1) (by decide) (by decide) | exact zIx.nI (k := 2) (by decide) (by decide) | exact zIx.nI (k := 3) (by decide) (by decide))) rfl ?_
    rw [b3]
    refine zb_br (zg_icmp_ge (tgt := 51) (by decide)) rfl (fun c0 => ?_) (fun c0 => ?_)
    · obtain rfl := z_is_le (by omega) hk c0
      refine kX6_needed_51 ?_
      refine zb_go (zg_iload_n rfl) rfl ?_
      refine zb_end (zg_ireturn rfl (by rfl) ?_) rfl
      exact hQ _ _ ⟨rfl, hS5.rel hM2 z5, hS5.same hf⟩
    · have hk2 := z_not_le (by omega) hk c0
      have ih := ih hk2
      have e1 : zbits (fun r => decide (F (1 <<< r) < F 0)) (k + 1) = zbits (fun r => decide (F (1 <<< r) < F 0)) k ||| (if decide (F (1 <<< k) < F 0) = true then 1 <<< k else 0) := rfl
      rw [e1] at ih
      have eb : (1 : Int32) <<< (nI k &&& 31) = nI (1 <<< k) := z_shl (a := 1) (by omega)
      refine zb_go (zg_iload_n rfl) rfl ?_
      refine zb_go (zg_aload_n rfl) rfl ?_
      refine zb_go (zg_iconst 1 (by decide)) rfl ?_
      refine zb_go (zg_iload_n rfl) rfl ?_
      refine zb_go zg_ishl rfl ?_
      rw [eb]
      refine zb_callvx (hmb (wo := 1 <<< k) hP2 hf.1 hf.2.1 hf.2.2.1 hL hS5 z5) lX6_221 (by repeat (first | assumption | exact z_up_self _ _ _ | refine (z_up_ne (by first | decide | omega)).trans ?_)) rfl rfl (by first | decide | assumption | omega) (by first | decide | omega) rfl (Nat.le_of_ble_eq_true rfl) rfl ?_
      rintro v h6 ⟨rfl, pk6, se6, on6, tw6, th6, ru6, rw6, hS6, z6⟩
      have ih := ih h6 _ pk6 se6 on6 tw6 th6 ru6 rw6 hS6 z6
      have f1 := hF (1 <<< k)
      have f0 := hF 0
      refine zb_go (zg_iload_n rfl) rfl ?_
      refine zb_br (zg_icmp_ge (tgt := 42) (by decide)) rfl (fun c1 => ?_) (fun c1 => ?_)
      · have c1 := (nI_leI (by omega) (by omega)).mp c1
        rw [decide_eq_false (by omega)] at ih
        refine kX6_needed_42 ?_
        refine zb_go (zg_iconst 0 (by decide)) rfl ?_
        refine zb_out ?_
        refine kX6_needed_43 ?_
        refine zb_go zg_ior rfl ?_
        refine zb_go (zg_istore_n (by decide)) rfl ?_
        refine zb_go (zg_iinc 1 (by decide) rfl (by decide)) rfl ?_
        refine zb_end (zg_goto (tgt := 14) (by decide) ?_) rfl
        rw [show (0 : Int32) = nI 0 from rfl, z_or, nI_1]
        exact ih
      · have c1 : ¬ F 0 ≤ F (1 <<< k) := fun w => c1 (nI_le w (by omega))
        rw [decide_eq_true (by omega)] at ih
        refine zb_go (zg_iconst 1 (by decide)) rfl ?_
        refine zb_go (zg_iload_n rfl) rfl ?_
        refine zb_go zg_ishl rfl ?_
        refine zb_end (zg_goto (tgt := 43) (by decide) ?_) rfl
        refine kX6_needed_43 ?_
        refine zb_go zg_ior rfl ?_
        refine zb_go (zg_istore_n (by decide)) rfl ?_
        refine zb_go (zg_iinc 1 (by decide) rfl (by decide)) rfl ?_
        refine zb_end (zg_goto (tgt := 14) (by decide) ?_) rfl
        rw [eb, z_or, nI_1]
        exact ih
  refine zb_go (zg_istore_n (by decide)) rfl ?_
  refine zb_go (zg_iconst 0 (by decide)) rfl ?_
  refine zb_go (zg_istore_n (by decide)) rfl ?_
  refine zb_go (zg_iconst 0 (by decide)) rfl ?_
  refine zb_go (zg_istore_n (by decide)) rfl ?_
  refine zb_out ?_
  exact lp 0 (by omega) h3 _ pk3 se3 on3 tw3 th3 ru3 rw3 hS3 z3
end
