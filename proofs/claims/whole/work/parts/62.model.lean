/-! THE MODEL (13): the most, the nights -/
theorem z_mo1 {a b : Nat} (h : a ≤ b) (hb : b ≤ 1000) : nI a - 1 ≤ nI b - 1 := by
  cases a with
  | zero =>
    cases b with
    | zero => exact Int32.le_refl _
    | succ b =>
      rw [nI_pred]
      exact Int32.le_trans (show nI 0 - 1 ≤ (0 : Int32) by decide) (nI_pos' (by omega))
  | succ a =>
    cases b with
    | zero => omega
    | succ b =>
      rw [nI_pred, nI_pred]
      exact nI_le (by omega) (by omega)
theorem z_mo2 {a b : Nat} (ha : a ≤ 1000) (hb : b ≤ 1000) : nI a ≤ nI b - 1 ↔ a + 1 ≤ b := by
  cases b with
  | zero => exact ⟨fun h => absurd (Int32.le_trans (nI_pos' (n := a) (by omega)) h) (by decide), fun h => by omega⟩
  | succ b =>
    rw [nI_pred, nI_leI (by omega) (by omega)]
    omega
theorem bRung_le {b : Nat → Nat} (k : Nat) : bRung b k ≤ k * 6 := zsum_le (fun _ _ => zpop_le _)
theorem most_is {P : zP} {wo m : Nat} (okp : okP P) (h1 : ∀ b, bLaw P wo b → bRung b 4 + 1 ≤ m) (h2 : m = 0 ∨ ∃ b, bLaw P wo b ∧ bRung b 4 + 1 = m) : m = nMost P wo + 1 := by
  obtain ⟨c, c1, c2, c3⟩ := nMost_at P wo
  have e1 := h1 (nS c) ((bLaw_code okp).mpr c2)
  have e2 : bRung (nS c) 4 = nRung c := rfl
  rw [e2, c3] at e1
  rcases h2 with h2 | ⟨b, hb, h2⟩
  · omega
  · have hl := bLaw_enc okp hb
    have h64 : ∀ g, g < 4 → b g < 64 := fun g hg => (hb g hg).1.1
    have h3 := nRung_most (nEnc_lt h64) hl
    have e3 : nRung (nEnc b) = bRung b 4 := bRung_congr (fun g hg => nS_enc h64 hg)
    omega
section
variable {K : zK} {l : Launch} {n p q r g k s : Nat} {h h1 hb : zH} {x y z : Int32} {G : zS} {P : zP} {f : Nat → Int32} {T : zT} {tr : Int64} {ty : Int32} {X : zX} {pk se on tw th ru br rw : Nat → Int32} {wo : Nat} {at_ st so va fa to mo wa fe ev : Int32}
def Inv1 (P : zP) (wo : Nat) (W0 : Int32 × Int32 × Int32 × (Nat → Int32)) (W : zW) : Prop := W.2 = W0 ∧ ∃ m, W.1 = nI m - 1 ∧ m ≤ 100 ∧ (m = 0 ∨ ∃ b, bLaw P wo b ∧ bRung b 4 + 1 = m)
def Dn1 (b : Nat → Nat) (W : zW) : Prop := nI (bRung b 4) ≤ W.1
theorem r_X6_mostBut {cr bo cm : Nat → Int32} {L : Nat → List Nat} {W : zW} (okp : okP P) (hP0 : mPar hb P) (q48 : hb 48 = .inl (0, 256, .inl cr)) (q49 : hb 49 = .inl (0, 256, .inl bo)) (q50 : hb 50 = .inl (0, 4, .inl cm)) (hL : mCrews P cr bo cm L) (hS : isW hb h tr ty X W pk se on tw th ru rw) (h0 : on 0 = 0 ∧ tw 0 = 0 ∧ th 0 = 0 ∧ ru 0 = 0) : zRex K l 5 mX6_mostBut [.ref 34, .int (nI wo)] 59 h (fun v h' => v = some (.int (nI (nMost P wo))) ∧ ∃ pk se on tw th ru rw, isW hb h' tr ty X (nI (nMost P wo), W.2) pk se on tw th ru rw ∧ (on 0 = 0 ∧ tw 0 = 0 ∧ th 0 = 0 ∧ ru 0 = 0)) := by
  refine zRex.of (by decide) (Nat.le_of_ble_eq_true rfl) (fun Q hQ => ?_)
  obtain ⟨at_, st, so, va, fa, to, mo0, wa0, fe0, ev0⟩ := X
  obtain ⟨mo, wa, fe, ev, br⟩ := W
  obtain ⟨h1, c51, c52, c53, c54, c55, c56, c57, c58, hsm⟩ := id hS
  have h1 : h 34 = .inr _ := h1
  obtain ⟨h2, eh2⟩ : ∃ h2, h2 = z_up h 34 (mObj tr ty (at_, st, so, va, fa, to, -1, wa, fe, ev)) := ⟨_, rfl⟩
  have hS2 : isW hb h2 tr ty (at_, st, so, va, fa, to, mo0, wa0, fe0, ev0) (-1, wa, fe, ev, br) pk se on tw th ru rw := by
    rw [eh2]
    exact ⟨z_up_self _ _ _, (z_up_ne (by decide)).trans c51, (z_up_ne (by decide)).trans c52, (z_up_ne (by decide)).trans c53, (z_up_ne (by decide)).trans c54, (z_up_ne (by decide)).trans c55, (z_up_ne (by decide)).trans c56, (z_up_ne (by decide)).trans c57, (z_up_ne (by decide)).trans c58, fun j hj1 hj2 => (z_up_ne hj1).trans (hsm j hj1 hj2)⟩
  have hgo := r_X6_goThrough (K := K) (l := l) (om := true) (wo := wo) (W := (-1, wa, fe, ev, br)) (Inv := Inv1 P wo (wa, fe, ev, br)) (Dn := Dn1) okp hP0 q48 q49 q50 hL
    (fun W b b' hbb hd => by unfold Dn1 at *; rw [← bRung_congr hbb]; exact hd)
    (fun W R hI hR hz b hb hbR => by
      have hz : nI R ≤ W.1 := hz
      exact Int32.le_trans (nI_le hbR (by omega)) hz)
    (fun W b hI hb hR hz h pk se on tw th ru rw ix hS hp hrows => by
      obtain ⟨w1, m, w2, w3, w4⟩ := hI
      obtain ⟨-, -, -, p4⟩ := hp.2 4 (Nat.le_refl _)
      have k24 := bRung_le (b := b) 4
      refine zRuns.mono ?_ (r_X6_weighM (m := m) (R := bRung b 4) hS p4 hR w2 w3)
      rintro v n' h' ⟨rfl, hv, hS'⟩
      refine ⟨rfl, hv, (nI (max m (bRung b 4 + 1)) - 1, W.2), rw, hS', ⟨w1, max m (bRung b 4 + 1), rfl, by omega, ?_⟩, fun b' hd => ?_, ?_⟩
      · by_cases q : m ≤ bRung b 4
        · exact Or.inr ⟨b, hb, by omega⟩
        · rw [show max m (bRung b 4 + 1) = m by omega]; exact w4
      · have hd : nI (bRung b' 4) ≤ W.1 := hd
        rw [w2] at hd
        exact Int32.le_trans hd (z_mo1 (by omega) (by omega))
      · exact (z_mo2 (by omega) (by omega)).mpr (by omega))
    hS2 ⟨rfl, 0, rfl, by omega, Or.inl rfl⟩ h0
  refine kX6_mostBut_0 ?_
  refine zb_go (zg_aload_n rfl) rfl ?_
  refine zb_go (zg_iconst (-1) (by decide)) rfl ?_
  refine zb_go (zg_putfield fX6_188 (by first | decide | assumption | omega) (by repeat (first | assumption | exact z_up_self _ _ _ | refine (z_up_ne (by first | decide | omega)).trans ?_)) (by exact Nat.le_of_ble_eq_true rfl) (by rfl) (by rfl) (by first | exact Or.inl rfl | exact Or.inr ⟨rfl, rfl⟩)) rfl ?_
  refine zb_go (zg_aload_n rfl) rfl ?_
  refine zb_go (zg_iload_n rfl) rfl ?_
  change zGb K l 5 mX6_mostBut _ _ _ _ 59 (z_up h 34 (mObj tr ty (at_, st, so, va, fa, to, -1, wa, fe, ev))) 0 0 Q
  rw [← eh2]
  have g2 : h2 34 = .inr _ := hS2.1
  refine zb_go (zg_iconst 1 (by decide)) rfl ?_
  refine zb_callvx hgo lX6_217 (by repeat (first | assumption | exact z_up_self _ _ _ | refine (z_up_ne (by first | decide | omega)).trans ?_)) rfl rfl (by first | decide | assumption | omega) (by first | decide | omega) rfl (Nat.le_of_ble_eq_true rfl) rfl ?_
  rintro v h3 ⟨rfl, W3, pk3, se3, on3, tw3, th3, ru3, rw3, hS3, ⟨w1, m, w2, w3, w4⟩, z3, hall⟩
  have em : m = nMost P wo + 1 := most_is okp (fun b hb => by
    have hd : nI (bRung b 4) ≤ W3.1 := hall b hb
    have k24 := bRung_le (b := b) 4
    rw [w2] at hd
    exact (z_mo2 (by omega) (by omega)).mp hd) w4
  have e1 : W3.1 = nI (nMost P wo) := by rw [w2, em, nI_pred]
  have e2 : W3 = (nI (nMost P wo), wa, fe, ev, br) := by
    obtain ⟨a, b⟩ := W3
    exact Prod.ext e1 w1
  rw [e2] at hS3
  have g3 : h3 34 = .inr _ := hS3.1
  refine zb_go (zg_aload_n rfl) rfl ?_
  refine zb_go (zg_getfield fX6_188 (by first | decide | assumption | omega) (by repeat (first | assumption | exact z_up_self _ _ _ | refine (z_up_ne (by first | decide | omega)).trans ?_)) (by rfl)) rfl ?_
  refine zb_end (zg_ireturn rfl (by rfl) ?_) rfl
  exact hQ _ _ ⟨rfl, pk3, se3, on3, tw3, th3, ru3, rw3, hS3, z3⟩
/-- as good as a night can be -/
def wGood (P : zP) (tw : Nat) (x : (Nat → Nat) × Nat × Nat) (b : Nat → Nat) : Prop := bLess P tw x.1 b ∧ x.2.1 ≤ zpop (zo1 b 4) ∧ x.2.2 ≤ bTop b
def bMax (P : zP) (M : Nat) (b : Nat → Nat) : Prop := bLaw P 0 b ∧ bRung b 4 = M
def wFrom (P : zP) (M : Nat) (x : (Nat → Nat) × Nat × Nat) : Prop := bMax P M x.1 ∧ (∃ b, bMax P M b ∧ x.2.1 = zpop (zo1 b 4)) ∧ ∃ b, bMax P M b ∧ x.2.2 = bTop b
theorem bTop_le (b : Nat → Nat) : bTop b ≤ 4 := zmx_le (fun _ _ => zcnt_le _ _)
theorem wV_uniq {tw : Nat} {wa fe ev : Int32} {br : Nat → Int32} {x y : (Nat → Nat) × Nat × Nat} (okp : okP P) (htw : tw ≤ 60) (h1 : wV P tw wa fe ev br (some x)) (h2 : wV P tw wa fe ev br (some y)) : bWalk P tw x.1 = bWalk P tw y.1 ∧ bCod (bX P x.1) = bCod (bX P y.1) ∧ x.2 = y.2 := by
  obtain ⟨b1, f1, e1⟩ := x
  obtain ⟨b2, f2, e2⟩ := y
  obtain ⟨a1, a2, a3, a4, a5, a6⟩ := h1
  obtain ⟨c1, c2, c3, c4, c5, c6⟩ := h2
  have k1 := bWalk_le (b := b1) okp htw
  have k2 := bWalk_le (b := b2) okp htw
  refine ⟨show bWalk P tw b1 = bWalk P tw b2 from (nI_eq (by omega) (by omega)).mp (a1.symm.trans c1), ?_, ?_⟩
  · refine zsum_congr (fun g hg => ?_)
    have l1 := bX_lt (P := P) (b := b1) (g := g)
    have l2 := bX_lt (P := P) (b := b2) (g := g)
    rw [show bX P b1 g = bX P b2 g from (nI_eq (by omega) (by omega)).mp ((a2 g hg).symm.trans (c2 g hg))]
  · have d1 := (nI_eq (by omega) (by omega)).mp (a3.symm.trans c3)
    have d2 := (nI_eq (by omega) (by omega)).mp (a4.symm.trans c4)
    exact Prod.ext d1 d2
theorem wV_some {tw : Nat} {wa fe ev : Int32} {br : Nat → Int32} {x : (Nat → Nat) × Nat × Nat} {o : Option ((Nat → Nat) × Nat × Nat)} (okp : okP P) (htw : tw ≤ 60) (h1 : wV P tw wa fe ev br (some x)) (h2 : wV P tw wa fe ev br o) : ∃ y, o = some y := by
  cases o with
  | some y => exact ⟨y, rfl⟩
  | none =>
    obtain ⟨b1, f1, e1⟩ := x
    have k1 := bWalk_le (b := b1) okp htw
    have := h1.1.symm.trans h2.1
    exact absurd this (z_ne1 (by omega))
theorem wGood_eq {tw : Nat} {x y : (Nat → Nat) × Nat × Nat} {b : Nat → Nat} (h : bWalk P tw x.1 = bWalk P tw y.1 ∧ bCod (bX P x.1) = bCod (bX P y.1) ∧ x.2 = y.2) (hg : wGood P tw x b) : wGood P tw y b := by
  obtain ⟨h1, h2, h3⟩ := h
  obtain ⟨a1, a2⟩ := hg
  unfold bLess at a1
  rw [h1, h2] at a1
  rw [h3] at a2
  exact ⟨a1, a2⟩
theorem wStep_good {tw : Nat} {b b' : Nat → Nat} {x : (Nat → Nat) × Nat × Nat} (h : wGood P tw x b') : wGood P tw (wStep P tw b (some x)) b' := by
  obtain ⟨b1, f1, e1⟩ := x
  obtain ⟨a1, a2, a3⟩ := h
  have a1 : bLess P tw b1 b' := a1
  refine ⟨?_, ?_, ?_⟩
  · show bLess P tw (zite _ b b1) b'
    by_cases q : bWalk P tw b < bWalk P tw b1 ∨ (bWalk P tw b = bWalk P tw b1 ∧ bCod (bX P b) < bCod (bX P b1))
    · rw [zite_t q]
      refine bLess_tr ?_ a1
      unfold bLess
      omega
    · rw [zite_f q]; exact a1
  · show (if zpop (zo1 b 4) < f1 then zpop (zo1 b 4) else f1) ≤ _
    have a2 : f1 ≤ zpop (zo1 b' 4) := a2
    split <;> omega
  · show (if bTop b < e1 then bTop b else e1) ≤ _
    have a3 : e1 ≤ bTop b' := a3
    split <;> omega
theorem wStep_own {tw : Nat} {b : Nat → Nat} {o : Option ((Nat → Nat) × Nat × Nat)} : wGood P tw (wStep P tw b o) b := by
  cases o with
  | none => exact ⟨bLess_rf, Nat.le_refl _, Nat.le_refl _⟩
  | some x =>
    obtain ⟨b1, f1, e1⟩ := x
    refine ⟨?_, ?_, ?_⟩
    · show bLess P tw (zite _ b b1) b
      by_cases q : bWalk P tw b < bWalk P tw b1 ∨ (bWalk P tw b = bWalk P tw b1 ∧ bCod (bX P b) < bCod (bX P b1))
      · rw [zite_t q]; exact bLess_rf
      · rw [zite_f q]
        unfold bLess
        omega
    · show (if zpop (zo1 b 4) < f1 then zpop (zo1 b 4) else f1) ≤ _
      split <;> omega
    · show (if bTop b < e1 then bTop b else e1) ≤ _
      split <;> omega
theorem wStep_from {tw M : Nat} {b : Nat → Nat} {o : Option ((Nat → Nat) × Nat × Nat)} (hb : bMax P M b) (ho : ∀ x, o = some x → wFrom P M x) : wFrom P M (wStep P tw b o) := by
  cases o with
  | none => exact ⟨hb, ⟨b, hb, rfl⟩, ⟨b, hb, rfl⟩⟩
  | some x =>
    obtain ⟨b1, f1, e1⟩ := x
    obtain ⟨h1, h2, h3⟩ := ho _ rfl
    refine ⟨?_, ?_, ?_⟩
    · show bMax P M (zite _ b b1)
      by_cases q : bWalk P tw b < bWalk P tw b1 ∨ (bWalk P tw b = bWalk P tw b1 ∧ bCod (bX P b) < bCod (bX P b1))
      · rw [zite_t q]; exact hb
      · rw [zite_f q]; exact h1
    · show ∃ c, bMax P M c ∧ (if zpop (zo1 b 4) < f1 then zpop (zo1 b 4) else f1) = _
      by_cases q : zpop (zo1 b 4) < f1
      · rw [if_pos q]; exact ⟨b, hb, rfl⟩
      · rw [if_neg q]; exact h2
    · show ∃ c, bMax P M c ∧ (if bTop b < e1 then bTop b else e1) = _
      by_cases q : bTop b < e1
      · rw [if_pos q]; exact ⟨b, hb, rfl⟩
      · rw [if_neg q]; exact h3
def Inv2 (P : zP) (tw M : Nat) (W : zW) : Prop := W.1 = nI M ∧ ∃ o, wV P tw W.2.1 W.2.2.1 W.2.2.2.1 W.2.2.2.2 o ∧ ∀ x, o = some x → wFrom P M x
def Dn2 (P : zP) (tw M : Nat) (b : Nat → Nat) (W : zW) : Prop := bMax P M b → ∃ x, wV P tw W.2.1 W.2.2.1 W.2.2.2.1 W.2.2.2.2 (some x) ∧ wGood P tw x b
theorem bMax_congr {M : Nat} {a b : Nat → Nat} (okp : okP P) (h : ∀ g, g < 4 → a g = b g) : bMax P M a ↔ bMax P M b := by
  unfold bMax
  rw [bLaw_congr okp h, bRung_congr h]
theorem wGood_congr {tw : Nat} {x : (Nat → Nat) × Nat × Nat} {a b : Nat → Nat} (h : ∀ g, g < 4 → a g = b g) (hg : wGood P tw x a) : wGood P tw x b := by
  have e1 : bWalk P tw a = bWalk P tw b := zsum_congr (fun g hg => by rw [h g hg])
  have e2 : bCod (bX P a) = bCod (bX P b) := zsum_congr (fun g hg => by unfold bX; rw [h g hg])
  have e3 : zo1 a 4 = zo1 b 4 := (zo_congr h).1
  have e4 : bTop a = bTop b := by
    unfold bTop
    congr 1
    funext r
    exact zcnt_congr (fun g hg => by rw [h g hg])
  obtain ⟨a1, a2, a3⟩ := hg
  refine ⟨?_, by rw [← e3]; exact a2, by rw [← e4]; exact a3⟩
  unfold bLess at *
  rw [← e1, ← e2]
  exact a1
theorem r_X6_goNights {cr bo cm : Nat → Int32} {L : Nat → List Nat} {W : zW} {twr M : Nat} (okp : okP P) (hP0 : mPar hb P) (q46 : hb 46 = .inl (0, 51, .inl f)) (hf : f 12 = nI twr) (htw : twr ≤ 60) (q48 : hb 48 = .inl (0, 256, .inl cr)) (q49 : hb 49 = .inl (0, 256, .inl bo)) (q50 : hb 50 = .inl (0, 4, .inl cm)) (hL : mCrews P cr bo cm L) (hM : ∀ b, bLaw P 0 b → bRung b 4 ≤ M) (hM1 : M ≤ 100) (hS : isW hb h tr ty X W pk se on tw th ru rw) (h0 : on 0 = 0 ∧ tw 0 = 0 ∧ th 0 = 0 ∧ ru 0 = 0) (hW : W.1 = nI M ∧ W.2.1 = -1 ∧ W.2.2.1 = -1 ∧ W.2.2.2.1 = -1) : zRex K l 4 mX6_goThrough [.ref 34, .int (nI 0), .int (bI false)] 59 h (fun v h' => v = none ∧ ∃ W' pk se on tw th ru rw, isW hb h' tr ty X W' pk se on tw th ru rw ∧ Inv2 P twr M W' ∧ (on 0 = 0 ∧ tw 0 = 0 ∧ th 0 = 0 ∧ ru 0 = 0) ∧ ∀ b, bLaw P 0 b → Dn2 P twr M b W') :=
  r_X6_goThrough (om := false) (wo := 0) (W := W) (Inv := Inv2 P twr M) (Dn := Dn2 P twr M) okp hP0 q48 q49 q50 hL
    (fun W b b' hbb hd hm => by
      obtain ⟨x, x1, x2⟩ := hd ((bMax_congr okp hbb).mpr hm)
      exact ⟨x, x1, wGood_congr hbb x2⟩)
    (fun W R hI hR hz b hb hbR hm => by
      have hz : nI R < W.1 := hz
      rw [hI.1] at hz
      have := (nI_ltI (by omega) (by omega)).mp hz
      have := hm.2
      omega)
    (fun W b hI hb hR hz h pk se on tw th ru rw ix hS hp hrows => by
      obtain ⟨w1, o, w2, w3⟩ := hI
      have hz : ¬ nI (bRung b 4) < W.1 := hz
      rw [w1] at hz
      have hle := hM b hb
      have hmx : bMax P M b := ⟨hb, by
        rcases Nat.lt_or_ge (bRung b 4) M with q | q
        · exact absurd (nI_lt q (by omega)) hz
        · omega⟩
      obtain ⟨at_, st, so, va, fa, to, mo0, wa0, fe0, ev0⟩ := X
      refine zRuns.mono ?_ (r_X6_weighN (bo := bo) (ix := ix) (twr := twr) (o := o) hS hP0 okp q46 hf htw q49 hp (fun g hg => (hb g hg).1.1) hrows w2)
      rintro v n' h' ⟨rfl, hv, wa', fe', ev', br', rw', hS', hV'⟩
      refine ⟨rfl, hv, (W.1, wa', fe', ev', br'), rw', hS', ⟨w1, _, hV', fun x hx => ?_⟩, fun b' hd hm => ?_, fun _ => ⟨_, hV', wStep_own⟩⟩
      · cases hx
        exact wStep_from hmx w3
      · obtain ⟨x, x1, x2⟩ := hd hm
        obtain ⟨y, rfl⟩ := wV_some okp htw x1 w2
        exact ⟨_, hV', wStep_good (wGood_eq (wV_uniq okp htw x1 w2) x2)⟩)
    hS ⟨hW.1, none, ⟨hW.2.1, hW.2.2.1, hW.2.2.2⟩, fun x hx => by cases hx⟩ h0
end
