/-! THE MODEL (11): weigh -/
theorem bX_lt {P : zP} {b : Nat → Nat} {g : Nat} : bX P b g < 4096 := by
  unfold bX
  cases e : zrow P g (b g) with
  | none => exact (by decide : (0 : Nat) < 4096)
  | some x =>
    show x < 4096
    unfold zrow at e
    split at e
    · split at e
      · have := zseat_lt P g (b g) 6 (by decide) 0 x e
        have h1 : 4 ^ (6 - 6) = 1 := rfl
        omega
      · cases e
    · split at e
      · cases e; decide
      · cases e
theorem bWalk_le {P : zP} {tw : Nat} {b : Nat → Nat} (okp : okP P) (htw : tw ≤ 60) : bWalk P tw b ≤ 10000 := by
  have h := zsum_le (f := fun g => pWalk P tw (b g)) (m := 720) (k := 4) (fun i _ => by
    have h1 := pWalk_le (s := b i) okp htw
    have h2 := zpop_le (b i)
    omega)
  exact Nat.le_trans h (by decide)
def wV (P : zP) (tw : Nat) (wa fe ev : Int32) (br : Nat → Int32) : Option ((Nat → Nat) × Nat × Nat) → Prop
  | none => wa = -1 ∧ fe = -1 ∧ ev = -1
  | some (b1, f, e) => wa = nI (bWalk P tw b1) ∧ (∀ g, g < 4 → br g = nI (bX P b1 g)) ∧ fe = nI f ∧ ev = nI e ∧ f ≤ 6 ∧ e ≤ 4
noncomputable def wStep (P : zP) (tw : Nat) (b : Nat → Nat) : Option ((Nat → Nat) × Nat × Nat) → (Nat → Nat) × Nat × Nat
  | none => (b, zpop (zo1 b 4), bTop b)
  | some (b1, f, e) => (zite (bWalk P tw b < bWalk P tw b1 ∨ (bWalk P tw b = bWalk P tw b1 ∧ bCod (bX P b) < bCod (bX P b1))) b b1, if zpop (zo1 b 4) < f then zpop (zo1 b 4) else f, if bTop b < e then bTop b else e)
section
variable {K : zK} {l : Launch} {n p q r g k s : Nat} {h h1 hb : zH} {x y z : Int32} {G : zS} {P : zP} {f : Nat → Int32} {T : zT} {tr : Int64} {ty : Int32} {X : zX} {pk se on tw th ru br rw : Nat → Int32} {b : Nat → Nat} {wo : Nat} {at_ st so va fa to mo wa fe ev : Int32}
theorem r_X6_weighM {m R : Nat} (hS : isS hb h tr ty (at_, st, so, va, fa, to, mo, wa, fe, ev) pk se on tw th ru br rw) (hR : ru 4 = nI R) (hR2 : R ≤ 100) (hm : mo = nI m - 1) (hm2 : m ≤ 100) : zRex K l 3 mX6_weigh [.ref 34, .int 1] 59 h (fun v h' => v = none ∧ isS hb h' tr ty (at_, st, so, va, fa, to, nI (max m (R + 1)) - 1, wa, fe, ev) pk se on tw th ru br rw) := by
  refine zRex.of (by decide) (Nat.le_of_ble_eq_true rfl) (fun Q hQ => ?_)
  obtain ⟨h1, c51, c52, c53, c54, c55, c56, c57, c58, hsm⟩ := hS
  have h1 : h 34 = .inr _ := h1
  have i5 : zIx 4 5 4 := zIx.nI (k := 4) (by decide) (by decide)
  have fin : ∀ w : Int32, w = nI (max m (R + 1)) - 1 → zGo K l 3 mX6_weigh 31 [(0, .ref 34), (1, .int 1)] [.int w, .ref 34] 59 h 0 0 Q := by
    intro w hw
    subst hw
    refine kX6_weigh_31 ?_
    refine zb_go (zg_putfield fX6_188 (by first | decide | assumption | omega) (by repeat (first | assumption | exact z_up_self _ _ _ | refine (z_up_ne (by first | decide | omega)).trans ?_)) (by exact Nat.le_of_ble_eq_true rfl) (by rfl) (by rfl) (by first | exact Or.inl rfl | exact Or.inr ⟨rfl, rfl⟩)) rfl ?_
    refine zb_end (zg_return rfl ?_) rfl
    refine hQ _ _ ⟨rfl, z_up_self _ _ _, (z_up_ne (by decide)).trans c51, (z_up_ne (by decide)).trans c52, (z_up_ne (by decide)).trans c53, (z_up_ne (by decide)).trans c54, (z_up_ne (by decide)).trans c55, (z_up_ne (by decide)).trans c56, (z_up_ne (by decide)).trans c57, (z_up_ne (by decide)).trans c58, fun j hj1 hj2 => (z_up_ne hj1).trans (hsm j hj1 hj2)⟩
  refine kX6_weigh_0 ?_
  refine zb_go (zg_iload_n rfl) rfl ?_
  refine zb_br (zg_if_eq (tgt := 35) (by decide)) rfl (fun c0 => ?_) (fun c0 => ?_)
  · exact absurd c0 (by decide)
  · refine zb_go (zg_aload_n rfl) rfl ?_
    refine zb_go (zg_aload_n rfl) rfl ?_
    refine zb_go (zg_getfield fX6_75 (by first | decide | assumption | omega) (by repeat (first | assumption | exact z_up_self _ _ _ | refine (z_up_ne (by first | decide | omega)).trans ?_)) (by rfl)) rfl ?_
    refine zb_go (zg_iconst 4 (by decide)) rfl ?_
    refine zb_go (zi_iaload (by first | decide | assumption | omega) (by repeat (first | assumption | exact z_up_self _ _ _ | refine (z_up_ne (by first | decide | omega)).trans ?_)) i5) rfl ?_
    refine zb_go (zg_aload_n rfl) rfl ?_
    refine zb_go (zg_getfield fX6_188 (by first | decide | assumption | omega) (by repeat (first | assumption | exact z_up_self _ _ _ | refine (z_up_ne (by first | decide | omega)).trans ?_)) (by rfl)) rfl ?_
    rw [hR, hm]
    refine zb_br (zg_icmp_le (tgt := 27) (by decide)) rfl (fun c1 => ?_) (fun c1 => ?_)
    · refine kX6_weigh_27 ?_
      refine zb_go (zg_aload_n rfl) rfl ?_
      refine zb_go (zg_getfield fX6_188 (by first | decide | assumption | omega) (by repeat (first | assumption | exact z_up_self _ _ _ | refine (z_up_ne (by first | decide | omega)).trans ?_)) (by rfl)) rfl ?_
      refine zb_out ?_
      refine fin _ ?_
      rw [hm]
      cases m with
      | zero => exact absurd (Int32.le_trans (nI_pos' (n := R) (by omega)) c1) (by decide)
      | succ m =>
        rw [nI_pred] at c1
        have c1 := (nI_leI (by omega) (by omega)).mp c1
        rw [show max (m + 1) (R + 1) = m + 1 by omega]
    · refine zb_go (zg_aload_n rfl) rfl ?_
      refine zb_go (zg_getfield fX6_75 (by first | decide | assumption | omega) (by repeat (first | assumption | exact z_up_self _ _ _ | refine (z_up_ne (by first | decide | omega)).trans ?_)) (by rfl)) rfl ?_
      refine zb_go (zg_iconst 4 (by decide)) rfl ?_
      refine zb_go (zi_iaload (by first | decide | assumption | omega) (by repeat (first | assumption | exact z_up_self _ _ _ | refine (z_up_ne (by first | decide | omega)).trans ?_)) i5) rfl ?_
      refine zb_end (zg_goto (tgt := 31) (by decide) ?_) rfl
      rw [hR]
      refine fin _ ?_
      cases m with
      | zero => rw [show max 0 (R + 1) = R + 1 by omega, nI_pred]
      | succ m =>
        rw [nI_pred] at c1
        have c1 : ¬ R ≤ m := fun w => c1 (nI_le w (by omega))
        rw [show max (m + 1) (R + 1) = R + 1 by omega, nI_pred]
set_option maxHeartbeats 8000000 in
theorem r_X6_weighN {bo : Nat → Int32} {ix : Nat → Nat} {twr : Nat} {o : Option ((Nat → Nat) × Nat × Nat)} (hS : isS hb h tr ty (at_, st, so, va, fa, to, mo, wa, fe, ev) pk se on tw th ru br rw) (hP0 : mPar hb P) (okp : okP P) (h46 : hb 46 = .inl (0, 51, .inl f)) (hf : f 12 = nI twr) (htw : twr ≤ 60) (h49 : hb 49 = .inl (0, 256, .inl bo)) (hp : pfx 4 b se on tw th ru) (hb64 : ∀ g, g < 4 → b g < 64) (hpk : ∀ g, g < 4 → pk g = nI (ix g) ∧ ix g < 64 ∧ bo (64 * g + ix g) = nI (bX P b g)) (hV : wV P twr wa fe ev br o) : zRex K l 3 mX6_weigh [.ref 34, .int 0] 59 h (fun v h' => v = none ∧ ∃ wa' fe' ev' br' rw', isS hb h' tr ty (at_, st, so, va, fa, to, mo, wa', fe', ev') pk se on tw th ru br' rw' ∧ wV P twr wa' fe' ev' br' (some (wStep P twr b o))) := by
  refine zRex.of (by decide) (Nat.le_of_ble_eq_true rfl) (fun Q hQ => ?_)
  have kR := okp.2.1
  have hWk := bWalk_le (b := b) okp htw
  have kpop := zpop_le (zo1 b 4)
  have l1 := zo1_lt hb64
  have kTop : bTop b ≤ 4 := zmx_le (fun i _ => zcnt_le _ _)
  have i5 : zIx 4 5 4 := zIx.nI (k := 4) (by decide) (by decide)
  obtain ⟨p1, p2, p3, p4⟩ := hp.2 4 (Nat.le_refl _)
  -- the best row becomes this one
  have segE : ∀ h2 rw' fe' ev', isS hb h2 tr ty (at_, st, so, va, fa, to, mo, wa, fe', ev') pk se on tw th ru br rw' → (∀ g, g < 4 → rw' g = nI (bX P b g)) → (∀ br', (∀ g, g < 4 → br' g = nI (bX P b g)) → wV P twr (nI (bWalk P twr b)) fe' ev' br' (some (wStep P twr b o))) → ∀ a3 a4, zGo K l 3 mX6_weigh 306 [(0, .ref 34), (1, .int 0), (2, .int (nI (bWalk P twr b))), (3, .int a3), (4, .int a4)] [] 59 h2 0 0 Q := by
    intro h2 rw' fe' ev' hS2 hrw hV2 a3 a4
    obtain ⟨h1, c51, c52, c53, c54, c55, c56, c57, c58, hsm⟩ := hS2
    have h1 : h2 34 = .inr _ := h1
    have lp : ∀ i, i ≤ 4 → ∀ h3 br', isS hb h3 tr ty (at_, st, so, va, fa, to, mo, nI (bWalk P twr b), fe', ev') pk se on tw th ru br' rw' → (∀ g, g < i → br' g = nI (bX P b g)) → zGo K l 3 mX6_weigh 314 [(0, .ref 34), (1, .int 0), (2, .int (nI (bWalk P twr b))), (3, .int a3), (4, .int a4), (5, .int (nI i))] [] 59 h3 0 0 Q := by
      refine z_down 4 (fun i hi ih h3 br' hS3 hbr => ?_)
      obtain ⟨g1, d51, d52, d53, d54, d55, d56, d57, d58, hsm3⟩ := id hS3
      have g1' := g1
      have g1 : h3 34 = .inr _ := g1
      refine kX6_weigh_314 ?_
      refine zb_go (zg_iload rfl) rfl ?_
      refine zb_go (zg_iconst 4 (by decide)) rfl ?_
      refine zb_br (zg_icmp_ge (tgt := 340) (by decide)) rfl (fun c0 => ?_) (fun c0 => ?_)
      · obtain rfl := z_is_le (by omega) hi c0
        refine kX6_weigh_340 ?_
        refine zb_end (zg_return rfl ?_) rfl
        exact hQ _ _ ⟨rfl, _, _, _, _, _, hS3, hV2 br' hbr⟩
      · have hi2 := z_not_le (by omega) hi c0
        have i4 : zIx (nI i) 4 i := zIx.nI (by omega) (by decide)
        refine zb_go (zg_aload_n rfl) rfl ?_
        refine zb_go (zg_getfield fX6_78 (by first | decide | assumption | omega) (by repeat (first | assumption | exact z_up_self _ _ _ | refine (z_up_ne (by first | decide | omega)).trans ?_)) (by rfl)) rfl ?_
        refine zb_go (zg_iload rfl) rfl ?_
        refine zb_go (zg_aload_n rfl) rfl ?_
        refine zb_go (zg_getfield fX6_81 (by first | decide | assumption | omega) (by repeat (first | assumption | exact z_up_self _ _ _ | refine (z_up_ne (by first | decide | omega)).trans ?_)) (by rfl)) rfl ?_
        refine zb_go (zg_iload rfl) rfl ?_
        refine zb_go (zi_iaload (by first | decide | assumption | omega) (by repeat (first | assumption | exact z_up_self _ _ _ | refine (z_up_ne (by first | decide | omega)).trans ?_)) i4) rfl ?_
        refine zb_go (zi_iastore (by first | decide | assumption | omega) (by repeat (first | assumption | exact z_up_self _ _ _ | refine (z_up_ne (by first | decide | omega)).trans ?_)) i4) rfl ?_
        refine zb_go (zg_iinc 1 (by decide) rfl (by decide)) rfl ?_
        refine zb_end (zg_goto (tgt := 314) (by decide) ?_) rfl
        rw [hrw i hi2, nI_1]
        refine ih hi2 _ (upd br' i (nI (bX P b i))) ⟨(z_up_ne (by decide)).trans g1', (z_up_ne (by decide)).trans d51, (z_up_ne (by decide)).trans d52, (z_up_ne (by decide)).trans d53, (z_up_ne (by decide)).trans d54, (z_up_ne (by decide)).trans d55, (z_up_ne (by decide)).trans d56, z_up_self _ _ _, (z_up_ne (by decide)).trans d58, fun j hj1 hj2 => (z_up_ne (by omega)).trans (hsm3 j hj1 hj2)⟩ (fun g hg => ?_)
        by_cases w : g = i
        · rw [w, pk_us]
        · rw [pk_un w]; exact hbr g (by omega)
    refine kX6_weigh_306 ?_
    refine zb_go (zg_aload_n rfl) rfl ?_
    refine zb_go (zg_iload_n rfl) rfl ?_
    refine zb_go (zg_putfield fX6_197 (by first | decide | assumption | omega) (by repeat (first | assumption | exact z_up_self _ _ _ | refine (z_up_ne (by first | decide | omega)).trans ?_)) (by exact Nat.le_of_ble_eq_true rfl) (by rfl) (by rfl) (by first | exact Or.inl rfl | exact Or.inr ⟨rfl, rfl⟩)) rfl ?_
    refine zb_go (zg_iconst 0 (by decide)) rfl ?_
    refine zb_go (zg_istore (by decide)) rfl ?_
    refine zb_out ?_
    exact lp 0 (by omega) _ br ⟨z_up_self _ _ _, (z_up_ne (by decide)).trans c51, (z_up_ne (by decide)).trans c52, (z_up_ne (by decide)).trans c53, (z_up_ne (by decide)).trans c54, (z_up_ne (by decide)).trans c55, (z_up_ne (by decide)).trans c56, (z_up_ne (by decide)).trans c57, (z_up_ne (by decide)).trans c58, fun j hj1 hj2 => (z_up_ne hj1).trans (hsm j hj1 hj2)⟩ (fun g hg => by omega)
  -- whether it is better
  have segD : ∀ h2 rw' fe', isS hb h2 tr ty (at_, st, so, va, fa, to, mo, wa, fe', ev) pk se on tw th ru br rw' → (∀ g, g < 4 → rw' g = nI (bX P b g)) → fe' = nI (wStep P twr b o).2.1 → ∀ a3 a4 w, w = nI (wStep P twr b o).2.2 → zGo K l 3 mX6_weigh 269 [(0, .ref 34), (1, .int 0), (2, .int (nI (bWalk P twr b))), (3, .int a3), (4, .int a4)] [.int w, .ref 34] 59 h2 0 0 Q := by
    intro h0 rw' fe' hS0 hrw hfe a3 a4 ev' hev
    obtain ⟨g1, d51, d52, d53, d54, d55, d56, d57, d58, hsm0⟩ := id hS0
    have g1 : h0 34 = .inr _ := g1
    refine kX6_weigh_269 ?_
    refine zb_go (zg_putfield fX6_194 (by first | decide | assumption | omega) (by repeat (first | assumption | exact z_up_self _ _ _ | refine (z_up_ne (by first | decide | omega)).trans ?_)) (by exact Nat.le_of_ble_eq_true rfl) (by rfl) (by rfl) (by first | exact Or.inl rfl | exact Or.inr ⟨rfl, rfl⟩)) rfl ?_
    obtain ⟨h2, eh2⟩ : ∃ h2, h2 = z_up h0 34 (mObj tr ty (at_, st, so, va, fa, to, mo, wa, fe', ev')) := ⟨_, rfl⟩
    change zGb K l 3 mX6_weigh _ _ _ _ 59 (z_up h0 34 (mObj tr ty (at_, st, so, va, fa, to, mo, wa, fe', ev'))) 0 0 Q
    rw [← eh2]
    have hS2 : isS hb h2 tr ty (at_, st, so, va, fa, to, mo, wa, fe', ev') pk se on tw th ru br rw' := by
      rw [eh2]
      exact ⟨z_up_self _ _ _, (z_up_ne (by decide)).trans d51, (z_up_ne (by decide)).trans d52, (z_up_ne (by decide)).trans d53, (z_up_ne (by decide)).trans d54, (z_up_ne (by decide)).trans d55, (z_up_ne (by decide)).trans d56, (z_up_ne (by decide)).trans d57, (z_up_ne (by decide)).trans d58, fun j hj1 hj2 => (z_up_ne hj1).trans (hsm0 j hj1 hj2)⟩
    clear eh2 g1 d51 d52 d53 d54 d55 d56 d57 d58 hsm0 hS0
    obtain ⟨h1, c51, c52, c53, c54, c55, c56, c57, c58, hsm⟩ := id hS2
    have h1' : ∃ tr ty X, h2 34 = mObj tr ty X := ⟨_, _, _, h1⟩
    have h1 : h2 34 = .inr _ := h1
    cases o with
    | none =>
      obtain ⟨w1, w2, w3⟩ := hV
      have e := segE h2 rw' fe' ev' hS2 hrw (fun br' hbr => ⟨rfl, hbr, hfe, hev, kpop, kTop⟩) a3 a4
      refine zb_go (zg_aload_n rfl) rfl ?_
      refine zb_go (zg_getfield fX6_197 (by first | decide | assumption | omega) (by repeat (first | assumption | exact z_up_self _ _ _ | refine (z_up_ne (by first | decide | omega)).trans ?_)) (by rfl)) rfl ?_
      rw [w1]
      refine zb_br (zg_if_lt (tgt := 306) (by decide)) rfl (fun c0 => ?_) (fun c0 => ?_)
      · exact e
      · exact absurd (by decide) c0
    | some q =>
      obtain ⟨b1, f1, e1⟩ := q
      obtain ⟨w1, w2, w3, w4, w5, w6⟩ := hV
      have hW1 := bWalk_le (b := b1) okp htw
      have kf : (wStep P twr b (some (b1, f1, e1))).2.1 ≤ 6 := by
        show (if zpop (zo1 b 4) < f1 then zpop (zo1 b 4) else f1) ≤ 6
        split <;> omega
      have ke : (wStep P twr b (some (b1, f1, e1))).2.2 ≤ 4 := by
        show (if bTop b < e1 then bTop b else e1) ≤ 4
        split <;> omega
      have better : (bWalk P twr b < bWalk P twr b1 ∨ (bWalk P twr b = bWalk P twr b1 ∧ bCod (bX P b) < bCod (bX P b1))) → zGo K l 3 mX6_weigh 306 [(0, .ref 34), (1, .int 0), (2, .int (nI (bWalk P twr b))), (3, .int a3), (4, .int a4)] [] 59 h2 0 0 Q := by
        intro hbe
        refine segE h2 rw' fe' ev' hS2 hrw (fun br' hbr => ?_) a3 a4
        have eb : wStep P twr b (some (b1, f1, e1)) = (b, (wStep P twr b (some (b1, f1, e1))).2.1, (wStep P twr b (some (b1, f1, e1))).2.2) := by
          show (zite _ b b1, _, _) = _
          rw [zite_t hbe]; rfl
        rw [eb]
        exact ⟨rfl, hbr, hfe, hev, kf, ke⟩
      have worse : ¬ (bWalk P twr b < bWalk P twr b1 ∨ (bWalk P twr b = bWalk P twr b1 ∧ bCod (bX P b) < bCod (bX P b1))) → zGo K l 3 mX6_weigh 340 [(0, .ref 34), (1, .int 0), (2, .int (nI (bWalk P twr b))), (3, .int a3), (4, .int a4)] [] 59 h2 0 0 Q := by
        intro hbe
        refine kX6_weigh_340 ?_
        refine zb_end (zg_return rfl ?_) rfl
        have eb : wStep P twr b (some (b1, f1, e1)) = (b1, (wStep P twr b (some (b1, f1, e1))).2.1, (wStep P twr b (some (b1, f1, e1))).2.2) := by
          show (zite _ b b1, _, _) = _
          rw [zite_f hbe]; rfl
        refine hQ _ _ ⟨rfl, _, _, _, _, _, hS2, ?_⟩
        rw [eb]
        exact ⟨w1, w2, hfe, hev, kf, ke⟩
      refine zb_go (zg_aload_n rfl) rfl ?_
      refine zb_go (zg_getfield fX6_197 (by first | decide | assumption | omega) (by repeat (first | assumption | exact z_up_self _ _ _ | refine (z_up_ne (by first | decide | omega)).trans ?_)) (by rfl)) rfl ?_
      rw [w1]
      refine zb_br (zg_if_lt (tgt := 306) (by decide)) rfl (fun c0 => ?_) (fun c0 => ?_)
      · exact absurd c0 (nI_pos (by omega))
      · refine zb_go (zg_iload_n rfl) rfl ?_
        refine zb_go (zg_aload_n rfl) rfl ?_
        refine zb_go (zg_getfield fX6_197 (by first | decide | assumption | omega) (by repeat (first | assumption | exact z_up_self _ _ _ | refine (z_up_ne (by first | decide | omega)).trans ?_)) (by rfl)) rfl ?_
        rw [w1]
        refine zb_br (zg_icmp_lt (tgt := 306) (by decide)) rfl (fun c1 => ?_) (fun c1 => ?_)
        · exact better (Or.inl ((nI_ltI (by omega) (by omega)).mp c1))
        · have c1 : ¬ bWalk P twr b < bWalk P twr b1 := fun w => c1 (nI_lt w (by omega))
          refine zb_go (zg_iload_n rfl) rfl ?_
          refine zb_go (zg_aload_n rfl) rfl ?_
          refine zb_go (zg_getfield fX6_197 (by first | decide | assumption | omega) (by repeat (first | assumption | exact z_up_self _ _ _ | refine (z_up_ne (by first | decide | omega)).trans ?_)) (by rfl)) rfl ?_
          rw [w1]
          refine zb_br (zg_icmp_ne (tgt := 340) (by decide)) rfl (fun c2 => ?_) (fun c2 => ?_)
          · have c2 : bWalk P twr b ≠ bWalk P twr b1 := fun w => c2 (by rw [w])
            exact worse (fun w => by omega)
          · have c2 := (nI_eq (by omega) (by omega)).mp c2
            refine zb_go (zg_aload_n rfl) rfl ?_
            refine zb_go (zg_aload_n rfl) rfl ?_
            refine zb_go (zg_getfield fX6_81 (by first | decide | assumption | omega) (by repeat (first | assumption | exact z_up_self _ _ _ | refine (z_up_ne (by first | decide | omega)).trans ?_)) (by rfl)) rfl ?_
            refine zb_callv (r_X6_isFirst (A := bX P b) (B := bX P b1) h1' c57 c58 (fun g hg => ⟨hrw g hg, bX_lt⟩) (fun g hg => ⟨w2 g hg, bX_lt⟩)) lX6_200 (by repeat (first | assumption | exact z_up_self _ _ _ | refine (z_up_ne (by first | decide | omega)).trans ?_)) rfl rfl (by first | decide | assumption | omega) (by first | decide | omega) rfl (Nat.le_of_ble_eq_true rfl) rfl ?_
            refine zb_br (zg_if_eq (tgt := 340) (by decide)) rfl (fun c3 => ?_) (fun c3 => ?_)
            · have c3 := of_decide_eq_false (bI_0.mp c3)
              exact worse (fun w => by
                rcases w with w | w
                · omega
                · exact c3 w.2)
            · have c3 := of_decide_eq_true (bI_n.mp c3)
              refine zb_out ?_
              exact better (Or.inr ⟨c2, c3⟩)
  -- few, even
  have put1 : ∀ h2 rw', isS hb h2 tr ty (at_, st, so, va, fa, to, mo, wa, fe, ev) pk se on tw th ru br rw' → (∀ g, g < 4 → rw' g = nI (bX P b g)) → ∀ a3 w, w = nI (wStep P twr b o).2.1 → zGo K l 3 mX6_weigh 240 [(0, .ref 34), (1, .int 0), (2, .int (nI (bWalk P twr b))), (3, .int a3), (4, .int (nI (bTop b)))] [.int w, .ref 34] 59 h2 0 0 Q := by
    intro h0 rw' hS0 hrw a3 fe' hfe
    obtain ⟨g1, d51, d52, d53, d54, d55, d56, d57, d58, hsm0⟩ := id hS0
    have g1 : h0 34 = .inr _ := g1
    refine kX6_weigh_240 ?_
    refine zb_go (zg_putfield fX6_191 (by first | decide | assumption | omega) (by repeat (first | assumption | exact z_up_self _ _ _ | refine (z_up_ne (by first | decide | omega)).trans ?_)) (by exact Nat.le_of_ble_eq_true rfl) (by rfl) (by rfl) (by first | exact Or.inl rfl | exact Or.inr ⟨rfl, rfl⟩)) rfl ?_
    obtain ⟨h2, eh2⟩ : ∃ h2, h2 = z_up h0 34 (mObj tr ty (at_, st, so, va, fa, to, mo, wa, fe', ev)) := ⟨_, rfl⟩
    change zGb K l 3 mX6_weigh _ _ _ _ 59 (z_up h0 34 (mObj tr ty (at_, st, so, va, fa, to, mo, wa, fe', ev))) 0 0 Q
    rw [← eh2]
    have hS2 : isS hb h2 tr ty (at_, st, so, va, fa, to, mo, wa, fe', ev) pk se on tw th ru br rw' := by
      rw [eh2]
      exact ⟨z_up_self _ _ _, (z_up_ne (by decide)).trans d51, (z_up_ne (by decide)).trans d52, (z_up_ne (by decide)).trans d53, (z_up_ne (by decide)).trans d54, (z_up_ne (by decide)).trans d55, (z_up_ne (by decide)).trans d56, (z_up_ne (by decide)).trans d57, (z_up_ne (by decide)).trans d58, fun j hj1 hj2 => (z_up_ne hj1).trans (hsm0 j hj1 hj2)⟩
    clear eh2 g1 d51 d52 d53 d54 d55 d56 d57 d58 hsm0 hS0
    have h1 : h2 34 = .inr _ := hS2.1
    have D := segD h2 rw' fe' hS2 hrw hfe a3 (nI (bTop b))
    cases o with
    | none =>
      obtain ⟨w1, w2, w3⟩ := hV
      refine zb_go (zg_aload_n rfl) rfl ?_
      refine zb_go (zg_aload_n rfl) rfl ?_
      refine zb_go (zg_getfield fX6_194 (by first | decide | assumption | omega) (by repeat (first | assumption | exact z_up_self _ _ _ | refine (z_up_ne (by first | decide | omega)).trans ?_)) (by rfl)) rfl ?_
      rw [w3]
      refine zb_br (zg_if_lt (tgt := 260) (by decide)) rfl (fun c0 => ?_) (fun c0 => ?_)
      · refine kX6_weigh_260 ?_
        refine zb_go (zg_iload rfl) rfl ?_
        refine zb_end (zg_goto (tgt := 269) (by decide) ?_) rfl
        exact D _ rfl
      · exact absurd (by decide) c0
    | some q =>
      obtain ⟨b1, f1, e1⟩ := q
      obtain ⟨w1, w2, w3, w4, w5, w6⟩ := hV
      refine zb_go (zg_aload_n rfl) rfl ?_
      refine zb_go (zg_aload_n rfl) rfl ?_
      refine zb_go (zg_getfield fX6_194 (by first | decide | assumption | omega) (by repeat (first | assumption | exact z_up_self _ _ _ | refine (z_up_ne (by first | decide | omega)).trans ?_)) (by rfl)) rfl ?_
      rw [w4]
      refine zb_br (zg_if_lt (tgt := 260) (by decide)) rfl (fun c0 => ?_) (fun c0 => ?_)
      · exact absurd c0 (nI_pos (by omega))
      · refine zb_go (zg_iload rfl) rfl ?_
        refine zb_go (zg_aload_n rfl) rfl ?_
        refine zb_go (zg_getfield fX6_194 (by first | decide | assumption | omega) (by repeat (first | assumption | exact z_up_self _ _ _ | refine (z_up_ne (by first | decide | omega)).trans ?_)) (by rfl)) rfl ?_
        rw [w4]
        refine zb_br (zg_icmp_ge (tgt := 265) (by decide)) rfl (fun c1 => ?_) (fun c1 => ?_)
        · have c1 := (nI_leI (by omega) (by omega)).mp c1
          refine kX6_weigh_265 ?_
          refine zb_go (zg_aload_n rfl) rfl ?_
          refine zb_go (zg_getfield fX6_194 (by first | decide | assumption | omega) (by repeat (first | assumption | exact z_up_self _ _ _ | refine (z_up_ne (by first | decide | omega)).trans ?_)) (by rfl)) rfl ?_
          refine zb_out ?_
          refine D _ ?_
          rw [w4]
          show nI e1 = nI (if bTop b < e1 then bTop b else e1)
          rw [if_neg (by omega)]
        · have c1 : bTop b < e1 := by
            rcases Nat.lt_or_ge (bTop b) e1 with w | w
            · exact w
            · exact absurd (nI_le w (by omega)) c1
          refine zb_out ?_
          refine kX6_weigh_260 ?_
          refine zb_go (zg_iload rfl) rfl ?_
          refine zb_end (zg_goto (tgt := 269) (by decide) ?_) rfl
          refine D _ ?_
          show nI (bTop b) = nI (if bTop b < e1 then bTop b else e1)
          rw [if_pos c1]
  have segC : ∀ h2 rw', isS hb h2 tr ty (at_, st, so, va, fa, to, mo, wa, fe, ev) pk se on tw th ru br rw' → (∀ g, g < 4 → rw' g = nI (bX P b g)) → ∀ a3 a4, zGo K l 3 mX6_weigh 198 [(0, .ref 34), (1, .int 0), (2, .int (nI (bWalk P twr b))), (3, .int a3), (4, .int a4)] [.int (nI (bTop b))] 59 h2 0 0 Q := by
    intro h2 rw' hS2 hrw a3 a4
    obtain ⟨h1, c51, c52, c53, c54, c55, c56, c57, c58, hsm⟩ := id hS2
    have h1 : h2 34 = .inr _ := h1
    have D := put1 h2 rw' hS2 hrw a3
    cases o with
    | none =>
      obtain ⟨w1, w2, w3⟩ := hV
      refine kX6_weigh_198 ?_
      refine zb_go (zg_istore (by decide)) rfl ?_
      refine zb_go (zg_aload_n rfl) rfl ?_
      refine zb_go (zg_aload_n rfl) rfl ?_
      refine zb_go (zg_getfield fX6_191 (by first | decide | assumption | omega) (by repeat (first | assumption | exact z_up_self _ _ _ | refine (z_up_ne (by first | decide | omega)).trans ?_)) (by rfl)) rfl ?_
      rw [w2]
      refine zb_br (zg_if_lt (tgt := 224) (by decide)) rfl (fun c0 => ?_) (fun c0 => ?_)
      · refine kX6_weigh_224 ?_
        refine zb_go (zg_aload_n rfl) rfl ?_
        refine zb_go (zg_getfield fX6_66 (by first | decide | assumption | omega) (by repeat (first | assumption | exact z_up_self _ _ _ | refine (z_up_ne (by first | decide | omega)).trans ?_)) (by rfl)) rfl ?_
        refine zb_go (zg_iconst 4 (by decide)) rfl ?_
        refine zb_go (zi_iaload (by first | decide | assumption | omega) (by repeat (first | assumption | exact z_up_self _ _ _ | refine (z_up_ne (by first | decide | omega)).trans ?_)) i5) rfl ?_
        rw [p1]
        refine zb_calls (r_X6_bitsIn l1) lX6_179 rfl (by first | decide | omega) rfl (Nat.le_of_ble_eq_true rfl) rfl ?_
        refine zb_end (zg_goto (tgt := 240) (by decide) ?_) rfl
        exact D _ rfl
      · exact absurd (by decide) c0
    | some q =>
      obtain ⟨b1, f1, e1⟩ := q
      obtain ⟨w1, w2, w3, w4, w5, w6⟩ := hV
      refine kX6_weigh_198 ?_
      refine zb_go (zg_istore (by decide)) rfl ?_
      refine zb_go (zg_aload_n rfl) rfl ?_
      refine zb_go (zg_aload_n rfl) rfl ?_
      refine zb_go (zg_getfield fX6_191 (by first | decide | assumption | omega) (by repeat (first | assumption | exact z_up_self _ _ _ | refine (z_up_ne (by first | decide | omega)).trans ?_)) (by rfl)) rfl ?_
      rw [w3]
      refine zb_br (zg_if_lt (tgt := 224) (by decide)) rfl (fun c0 => ?_) (fun c0 => ?_)
      · exact absurd c0 (nI_pos (by omega))
      · refine zb_go (zg_aload_n rfl) rfl ?_
        refine zb_go (zg_getfield fX6_66 (by first | decide | assumption | omega) (by repeat (first | assumption | exact z_up_self _ _ _ | refine (z_up_ne (by first | decide | omega)).trans ?_)) (by rfl)) rfl ?_
        refine zb_go (zg_iconst 4 (by decide)) rfl ?_
        refine zb_go (zi_iaload (by first | decide | assumption | omega) (by repeat (first | assumption | exact z_up_self _ _ _ | refine (z_up_ne (by first | decide | omega)).trans ?_)) i5) rfl ?_
        rw [p1]
        refine zb_calls (r_X6_bitsIn l1) lX6_179 rfl (by first | decide | omega) rfl (Nat.le_of_ble_eq_true rfl) rfl ?_
        refine zb_go (zg_aload_n rfl) rfl ?_
        refine zb_go (zg_getfield fX6_191 (by first | decide | assumption | omega) (by repeat (first | assumption | exact z_up_self _ _ _ | refine (z_up_ne (by first | decide | omega)).trans ?_)) (by rfl)) rfl ?_
        rw [w3]
        refine zb_br (zg_icmp_ge (tgt := 236) (by decide)) rfl (fun c1 => ?_) (fun c1 => ?_)
        · have c1 := (nI_leI (by omega) (by omega)).mp c1
          refine kX6_weigh_236 ?_
          refine zb_go (zg_aload_n rfl) rfl ?_
          refine zb_go (zg_getfield fX6_191 (by first | decide | assumption | omega) (by repeat (first | assumption | exact z_up_self _ _ _ | refine (z_up_ne (by first | decide | omega)).trans ?_)) (by rfl)) rfl ?_
          refine zb_out ?_
          refine D _ ?_
          rw [w3]
          show nI f1 = nI (if zpop (zo1 b 4) < f1 then zpop (zo1 b 4) else f1)
          rw [if_neg (by omega)]
        · have c1 : zpop (zo1 b 4) < f1 := by
            rcases Nat.lt_or_ge (zpop (zo1 b 4)) f1 with w | w
            · exact w
            · exact absurd (nI_le w (by omega)) c1
          refine zb_out ?_
          refine kX6_weigh_224 ?_
          refine zb_go (zg_aload_n rfl) rfl ?_
          refine zb_go (zg_getfield fX6_66 (by first | decide | assumption | omega) (by repeat (first | assumption | exact z_up_self _ _ _ | refine (z_up_ne (by first | decide | omega)).trans ?_)) (by rfl)) rfl ?_
          refine zb_go (zg_iconst 4 (by decide)) rfl ?_
          refine zb_go (zi_iaload (by first | decide | assumption | omega) (by repeat (first | assumption | exact z_up_self _ _ _ | refine (z_up_ne (by first | decide | omega)).trans ?_)) i5) rfl ?_
          rw [p1]
          refine zb_calls (r_X6_bitsIn l1) lX6_179 rfl (by first | decide | omega) rfl (Nat.le_of_ble_eq_true rfl) rfl ?_
          refine zb_end (zg_goto (tgt := 240) (by decide) ?_) rfl
          refine D _ ?_
          show nI (zpop (zo1 b 4)) = nI (if zpop (zo1 b 4) < f1 then zpop (zo1 b 4) else f1)
          rw [if_pos c1]
  -- the most turns
  have segB : ∀ h2 rw', isS hb h2 tr ty (at_, st, so, va, fa, to, mo, wa, fe, ev) pk se on tw th ru br rw' → (∀ g, g < 4 → rw' g = nI (bX P b g)) → ∀ a3 a4, zGo K l 3 mX6_weigh 122 [(0, .ref 34), (1, .int 0), (2, .int (nI (bWalk P twr b))), (3, .int a3), (4, .int a4)] [] 59 h2 0 0 Q := by
    intro h2 rw' hS2 hrw a3 a4
    obtain ⟨h1, c51, c52, c53, c54, c55, c56, c57, c58, hsm⟩ := id hS2
    have h1 : h2 34 = .inr _ := h1
    have eT := bTop_eq hb64
    have l4 : b 0 &&& b 1 &&& b 2 &&& b 3 < 64 := and_lt64 (and_lt64 (and_lt64 (hb64 0 (by decide))))
    have l2 := zo2_lt hb64
    have l3 := zo3_lt hb64
    have C := segC h2 rw' hS2 hrw
    rw [eT] at C
    refine kX6_weigh_122 ?_
    refine zb_go (zg_aload_n rfl) rfl ?_
    refine zb_go (zg_getfield fX6_63 (by first | decide | assumption | omega) (by repeat (first | assumption | exact z_up_self _ _ _ | refine (z_up_ne (by first | decide | omega)).trans ?_)) (by rfl)) rfl ?_
    refine zb_go (zg_iconst 0 (by decide)) rfl ?_
    refine zb_go (zi_iaload (by first | decide | assumption | omega) (by repeat (first | assumption | exact z_up_self _ _ _ | refine (z_up_ne (by first | decide | omega)).trans ?_)) (by first | assumption | exact zIx.nI (by omega) (by decide) | exact ⟨by decide, by decide⟩ | exact zIx.nI (k := 0) (by decide) (by decide) | exact zIx.nI (k := 1) (by decide) (by decide) | exact zIx.nI (k := 2) (by decide) (by decide) | exact zIx.nI (k := 3) (by decide) (by decide))) rfl ?_
    refine zb_go (zg_aload_n rfl) rfl ?_
    refine zb_go (zg_getfield fX6_63 (by first | decide | assumption | omega) (by repeat (first | assumption | exact z_up_self _ _ _ | refine (z_up_ne (by first | decide | omega)).trans ?_)) (by rfl)) rfl ?_
    refine zb_go (zg_iconst 1 (by decide)) rfl ?_
    refine zb_go (zi_iaload (by first | decide | assumption | omega) (by repeat (first | assumption | exact z_up_self _ _ _ | refine (z_up_ne (by first | decide | omega)).trans ?_)) (by first | assumption | exact zIx.nI (by omega) (by decide) | exact ⟨by decide, by decide⟩ | exact zIx.nI (k := 0) (by decide) (by decide) | exact zIx.nI (k := 1) (by decide) (by decide) | exact zIx.nI (k := 2) (by decide) (by decide) | exact zIx.nI (k := 3) (by decide) (by decide))) rfl ?_
    rw [hp.1 0 (by decide), hp.1 1 (by decide)]
    refine zb_go zg_iand rfl ?_
    rw [z_and]
    refine zb_go (zg_aload_n rfl) rfl ?_
    refine zb_go (zg_getfield fX6_63 (by first | decide | assumption | omega) (by repeat (first | assumption | exact z_up_self _ _ _ | refine (z_up_ne (by first | decide | omega)).trans ?_)) (by rfl)) rfl ?_
    refine zb_go (zg_iconst 2 (by decide)) rfl ?_
    refine zb_go (zi_iaload (by first | decide | assumption | omega) (by repeat (first | assumption | exact z_up_self _ _ _ | refine (z_up_ne (by first | decide | omega)).trans ?_)) (by first | assumption | exact zIx.nI (by omega) (by decide) | exact ⟨by decide, by decide⟩ | exact zIx.nI (k := 0) (by decide) (by decide) | exact zIx.nI (k := 1) (by decide) (by decide) | exact zIx.nI (k := 2) (by decide) (by decide) | exact zIx.nI (k := 3) (by decide) (by decide))) rfl ?_
    rw [hp.1 2 (by decide)]
    refine zb_go zg_iand rfl ?_
    rw [z_and]
    refine zb_go (zg_aload_n rfl) rfl ?_
    refine zb_go (zg_getfield fX6_63 (by first | decide | assumption | omega) (by repeat (first | assumption | exact z_up_self _ _ _ | refine (z_up_ne (by first | decide | omega)).trans ?_)) (by rfl)) rfl ?_
    refine zb_go (zg_iconst 3 (by decide)) rfl ?_
    refine zb_go (zi_iaload (by first | decide | assumption | omega) (by repeat (first | assumption | exact z_up_self _ _ _ | refine (z_up_ne (by first | decide | omega)).trans ?_)) (by first | assumption | exact zIx.nI (by omega) (by decide) | exact ⟨by decide, by decide⟩ | exact zIx.nI (k := 0) (by decide) (by decide) | exact zIx.nI (k := 1) (by decide) (by decide) | exact zIx.nI (k := 2) (by decide) (by decide) | exact zIx.nI (k := 3) (by decide) (by decide))) rfl ?_
    rw [hp.1 3 (by decide)]
    refine zb_go zg_iand rfl ?_
    rw [z_and]
    refine zb_go (zg_istore_n (by decide)) rfl ?_
    refine zb_go (zg_iload_n rfl) rfl ?_
    refine zb_br (zg_if_eq (tgt := 158) (by decide)) rfl (fun c0 => ?_) (fun c0 => ?_)
    · have c0 : ¬ (b 0 &&& b 1 &&& b 2 &&& b 3 ≠ 0) := fun w => w ((nI_eq (b := 0) (by omega) (by decide)).mp c0)
      rw [if_neg c0] at C
      refine kX6_weigh_158 ?_
      refine zb_go (zg_aload_n rfl) rfl ?_
      refine zb_go (zg_getfield fX6_72 (by first | decide | assumption | omega) (by repeat (first | assumption | exact z_up_self _ _ _ | refine (z_up_ne (by first | decide | omega)).trans ?_)) (by rfl)) rfl ?_
      refine zb_go (zg_iconst 4 (by decide)) rfl ?_
      refine zb_go (zi_iaload (by first | decide | assumption | omega) (by repeat (first | assumption | exact z_up_self _ _ _ | refine (z_up_ne (by first | decide | omega)).trans ?_)) i5) rfl ?_
      rw [p3]
      refine zb_br (zg_if_eq (tgt := 171) (by decide)) rfl (fun c1 => ?_) (fun c1 => ?_)
      · have c1 : ¬ (zo3 b 4 ≠ 0) := fun w => w ((nI_eq (b := 0) (by omega) (by decide)).mp c1)
        rw [if_neg c1] at C
        refine kX6_weigh_171 ?_
        refine zb_go (zg_aload_n rfl) rfl ?_
        refine zb_go (zg_getfield fX6_69 (by first | decide | assumption | omega) (by repeat (first | assumption | exact z_up_self _ _ _ | refine (z_up_ne (by first | decide | omega)).trans ?_)) (by rfl)) rfl ?_
        refine zb_go (zg_iconst 4 (by decide)) rfl ?_
        refine zb_go (zi_iaload (by first | decide | assumption | omega) (by repeat (first | assumption | exact z_up_self _ _ _ | refine (z_up_ne (by first | decide | omega)).trans ?_)) i5) rfl ?_
        rw [p2]
        refine zb_br (zg_if_eq (tgt := 184) (by decide)) rfl (fun c2 => ?_) (fun c2 => ?_)
        · have c2 : ¬ (zo2 b 4 ≠ 0) := fun w => w ((nI_eq (b := 0) (by omega) (by decide)).mp c2)
          rw [if_neg c2] at C
          refine kX6_weigh_184 ?_
          refine zb_go (zg_aload_n rfl) rfl ?_
          refine zb_go (zg_getfield fX6_66 (by first | decide | assumption | omega) (by repeat (first | assumption | exact z_up_self _ _ _ | refine (z_up_ne (by first | decide | omega)).trans ?_)) (by rfl)) rfl ?_
          refine zb_go (zg_iconst 4 (by decide)) rfl ?_
          refine zb_go (zi_iaload (by first | decide | assumption | omega) (by repeat (first | assumption | exact z_up_self _ _ _ | refine (z_up_ne (by first | decide | omega)).trans ?_)) i5) rfl ?_
          rw [p1]
          refine zb_br (zg_if_eq (tgt := 197) (by decide)) rfl (fun c3 => ?_) (fun c3 => ?_)
          · have c3 : ¬ (zo1 b 4 ≠ 0) := fun w => w ((nI_eq (b := 0) (by omega) (by decide)).mp c3)
            rw [if_neg c3] at C
            refine kX6_weigh_197 ?_
            refine zb_go (zg_iconst 0 (by decide)) rfl ?_
            refine zb_out ?_
            exact C _ _
          · have c3 : zo1 b 4 ≠ 0 := fun w => c3 (by rw [w]; rfl)
            rw [if_pos c3] at C
            refine zb_go (zg_iconst 1 (by decide)) rfl ?_
            refine zb_end (zg_goto (tgt := 198) (by decide) ?_) rfl
            exact C _ _
        · have c2 : zo2 b 4 ≠ 0 := fun w => c2 (by rw [w]; rfl)
          rw [if_pos c2] at C
          refine zb_go (zg_iconst 2 (by decide)) rfl ?_
          refine zb_end (zg_goto (tgt := 198) (by decide) ?_) rfl
          exact C _ _
      · have c1 : zo3 b 4 ≠ 0 := fun w => c1 (by rw [w]; rfl)
        rw [if_pos c1] at C
        refine zb_go (zg_iconst 3 (by decide)) rfl ?_
        refine zb_end (zg_goto (tgt := 198) (by decide) ?_) rfl
        exact C _ _
    · have c0 : b 0 &&& b 1 &&& b 2 &&& b 3 ≠ 0 := fun w => c0 (by rw [w]; rfl)
      rw [if_pos c0] at C
      refine zb_go (zg_iconst 4 (by decide)) rfl ?_
      refine zb_end (zg_goto (tgt := 198) (by decide) ?_) rfl
      exact C _ _
  -- walking, the rows
  have segA : ∀ k, k ≤ 4 → ∀ h2 rw', isS hb h2 tr ty (at_, st, so, va, fa, to, mo, wa, fe, ev) pk se on tw th ru br rw' → (∀ g, g < k → rw' g = nI (bX P b g)) → ∀ ls, (k = 4 → ∃ a4 ls', ls = (4, .int a4) :: ls') → zGo K l 3 mX6_weigh 39 ((0, .ref 34) :: (1, .int 0) :: (2, .int (nI (zsum (fun g => pWalk P twr (b g)) k))) :: (3, .int (nI k)) :: ls) [] 59 h2 0 0 Q := by
    refine z_down 4 (fun k hk ih h2 rw' hS2 hrw ls hls => ?_)
    obtain ⟨h1, c51, c52, c53, c54, c55, c56, c57, c58, hsm⟩ := id hS2
    have h1' := h1
    have hP := hS2.par hP0
    have hcore : mCore h2 P f := ⟨⟨_, _, _, h1⟩, hP, (hsm 46 (by omega) (by omega)).trans h46⟩
    have h1 : h2 34 = .inr _ := h1
    have q46 : h2 46 = _ := (hsm 46 (by omega) (by omega)).trans h46
    have q49 : h2 49 = _ := (hsm 49 (by omega) (by omega)).trans h49
    obtain ⟨-, -, ⟨f3, a3, b3⟩, -⟩ := id hP
    by_cases hk4 : k = 4
    · obtain ⟨a4, ls', rfl⟩ := hls hk4
      refine zg_sub [(0, .ref 34), (1, .int 0), (2, .int (nI (zsum (fun g => pWalk P twr (b g)) k))), (3, .int (nI k)), (4, .int a4)] (fun q hq => List.mem_append_left ls' hq) ?_
      subst hk4
      refine kX6_weigh_39 ?_
      refine zb_go (zg_iload_n rfl) rfl ?_
      refine zb_go (zg_iconst 4 (by decide)) rfl ?_
      refine zb_br (zg_icmp_ge (tgt := 122) (by decide)) rfl (fun c0 => ?_) (fun c0 => ?_)
      · exact segB h2 rw' hS2 hrw _ _
      · exact absurd (by decide) c0
    · have hk2 : k < 4 := by omega
      refine zg_sub [(0, .ref 34), (1, .int 0), (2, .int (nI (zsum (fun g => pWalk P twr (b g)) k))), (3, .int (nI k))] (fun q hq => List.mem_append_left ls hq) ?_
      refine kX6_weigh_39 ?_
      refine zb_go (zg_iload_n rfl) rfl ?_
      refine zb_go (zg_iconst 4 (by decide)) rfl ?_
      refine zb_br (zg_icmp_ge (tgt := 122) (by decide)) rfl (fun c0 => ?_) (fun c0 => ?_)
      · exact absurd c0 (nI_ge (a := k) (b := 4) hk2 (by decide))
      · have ih := ih hk2
        obtain ⟨m1, m2, m3⟩ := hpk k hk2
        have i4 : zIx (nI k) 4 k := zIx.nI (by omega) (by decide)
        have kb := hb64 k hk2
        have i256 : zIx (nI (64 * k + ix k)) 256 (64 * k + ix k) := zIx.nI (by omega) (by decide)
        have inner : ∀ r, r ≤ pR P → zGo K l 3 mX6_weigh 47 [(0, .ref 34), (1, .int 0), (2, .int (nI (zsum (fun g => pWalk P twr (b g)) k + zsum (fun r => if (b k).testBit r then 2 * zdist (pHo P r) twr else 0) r))), (3, .int (nI k)), (4, .int (nI r))] [] 59 h2 0 0 Q := by
          refine z_down (pR P) (fun r hr ih2 => ?_)
          refine kX6_weigh_47 ?_
          refine zb_go (zg_iload rfl) rfl ?_
          refine zb_go (zg_aload_n rfl) rfl ?_
          refine zb_go (zg_getfield fX6_20 (by first | decide | assumption | omega) (by repeat (first | assumption | exact z_up_self _ _ _ | refine (z_up_ne (by first | decide | omega)).trans ?_)) (by rfl)) rfl ?_
          refine zb_go (zg_iconst 0 (by decide)) rfl ?_
          refine zb_go (zi_iaload (by first | decide | assumption | omega) (by repeat (first | assumption | exact z_up_self _ _ _ | refine (z_up_ne (by first | decide | omega)).trans ?_)) (by first | assumption | exact zIx.nI (by omega) (by decide) | exact ⟨by decide, by decide⟩ | exact zIx.nI (k := 0) (by decide) (by decide) | exact zIx.nI (k := 1) (by decide) (by decide) | exact zIx.nI (k := 2) (by decide) (by decide) | exact zIx.nI (k := 3) (by decide) (by decide))) rfl ?_
          rw [b3]
          refine zb_br (zg_icmp_ge (tgt := 94) (by decide)) rfl (fun c1 => ?_) (fun c1 => ?_)
          · obtain rfl := z_is_le (by omega) hr c1
            refine kX6_weigh_94 ?_
            refine zb_go (zg_aload_n rfl) rfl ?_
            refine zb_go (zg_getfield fX6_81 (by first | decide | assumption | omega) (by repeat (first | assumption | exact z_up_self _ _ _ | refine (z_up_ne (by first | decide | omega)).trans ?_)) (by rfl)) rfl ?_
            refine zb_go (zg_iload_n rfl) rfl ?_
            refine zb_go (zg_aload_n rfl) rfl ?_
            refine zb_go (zg_getfield fX6_54 (by first | decide | assumption | omega) (by repeat (first | assumption | exact z_up_self _ _ _ | refine (z_up_ne (by first | decide | omega)).trans ?_)) (by rfl)) rfl ?_
            refine zb_go (zg_bipush 64 (by decide)) rfl ?_
            refine zb_go (zg_iload_n rfl) rfl ?_
            refine zb_go zg_imul rfl ?_
            rw [show (64 : Int32) * nI k = nI (64 * k) from pk_mul 64 k]
            refine zb_go (zg_aload_n rfl) rfl ?_
            refine zb_go (zg_getfield fX6_60 (by first | decide | assumption | omega) (by repeat (first | assumption | exact z_up_self _ _ _ | refine (z_up_ne (by first | decide | omega)).trans ?_)) (by rfl)) rfl ?_
            refine zb_go (zg_iload_n rfl) rfl ?_
            refine zb_go (zi_iaload (by first | decide | assumption | omega) (by repeat (first | assumption | exact z_up_self _ _ _ | refine (z_up_ne (by first | decide | omega)).trans ?_)) i4) rfl ?_
            rw [m1]
            refine zb_go zg_iadd rfl ?_
            rw [nI_add]
            refine zb_go (zi_iaload (by first | decide | assumption | omega) (by repeat (first | assumption | exact z_up_self _ _ _ | refine (z_up_ne (by first | decide | omega)).trans ?_)) i256) rfl ?_
            rw [m3]
            refine zb_go (zi_iastore (by first | decide | assumption | omega) (by repeat (first | assumption | exact z_up_self _ _ _ | refine (z_up_ne (by first | decide | omega)).trans ?_)) i4) rfl ?_
            refine zb_go (zg_iinc 1 (by decide) rfl (by decide)) rfl ?_
            refine zb_end (zg_goto (tgt := 39) (by decide) ?_) rfl
            rw [nI_1]
            refine ih _ (upd rw' k (nI (bX P b k))) ⟨(z_up_ne (by decide)).trans h1', (z_up_ne (by decide)).trans c51, (z_up_ne (by decide)).trans c52, (z_up_ne (by decide)).trans c53, (z_up_ne (by decide)).trans c54, (z_up_ne (by decide)).trans c55, (z_up_ne (by decide)).trans c56, (z_up_ne (by decide)).trans c57, z_up_self _ _ _, fun j hj1 hj2 => (z_up_ne (by omega)).trans (hsm j hj1 hj2)⟩ (fun g hg => ?_) [(4, _)] (fun _ => ⟨_, _, rfl⟩)
            by_cases w : g = k
            · rw [w, pk_us]
            · rw [pk_un w]; exact hrw g (by omega)
          · have hr2 := z_not_le (by omega) hr c1
            have ih2 := ih2 hr2
            refine zb_go (zg_iload_n rfl) rfl ?_
            refine zb_go (zg_aload_n rfl) rfl ?_
            refine zb_go (zg_getfield fX6_63 (by first | decide | assumption | omega) (by repeat (first | assumption | exact z_up_self _ _ _ | refine (z_up_ne (by first | decide | omega)).trans ?_)) (by rfl)) rfl ?_
            refine zb_go (zg_iload_n rfl) rfl ?_
            refine zb_go (zi_iaload (by first | decide | assumption | omega) (by repeat (first | assumption | exact z_up_self _ _ _ | refine (z_up_ne (by first | decide | omega)).trans ?_)) i4) rfl ?_
            rw [hp.1 k hk2]
            refine zb_go (zg_iload rfl) rfl ?_
            refine zb_go zg_ishr rfl ?_
            refine zb_go (zg_iconst 1 (by decide)) rfl ?_
            refine zb_go zg_iand rfl ?_
            rw [z_bit (by omega) (by omega)]
            refine zb_go (zg_iconst 2 (by decide)) rfl ?_
            refine zb_go zg_imul rfl ?_
            refine zb_go (zg_aload_n rfl) rfl ?_
            refine zb_go (zg_iload rfl) rfl ?_
            refine zb_go (zg_aload_n rfl) rfl ?_
            refine zb_go (zg_getfield fX6_44 (by first | decide | assumption | omega) (by repeat (first | assumption | exact z_up_self _ _ _ | refine (z_up_ne (by first | decide | omega)).trans ?_)) (by rfl)) rfl ?_
            refine zb_go (zg_bipush 12 (by decide)) rfl ?_
            refine zb_go (zi_iaload (by first | decide | assumption | omega) (by repeat (first | assumption | exact z_up_self _ _ _ | refine (z_up_ne (by first | decide | omega)).trans ?_)) (zIx.nI (k := 12) (by decide) (by decide))) rfl ?_
            rw [hf]
            refine zb_callv (r_X6_wayOf hcore okp hr2 (by omega)) lX6_150 (by repeat (first | assumption | exact z_up_self _ _ _ | refine (z_up_ne (by first | decide | omega)).trans ?_)) rfl rfl (by first | decide | assumption | omega) (by first | decide | omega) rfl (Nat.le_of_ble_eq_true rfl) rfl ?_
            refine zb_go zg_imul rfl ?_
            refine zb_go zg_iadd rfl ?_
            refine zb_go (zg_istore_n (by decide)) rfl ?_
            refine zb_go (zg_iinc 1 (by decide) rfl (by decide)) rfl ?_
            refine zb_end (zg_goto (tgt := 47) (by decide) ?_) rfl
            rw [nI_1]
            have e : zsum (fun r => if (b k).testBit r then 2 * zdist (pHo P r) twr else 0) (r + 1) = zsum (fun r => if (b k).testBit r then 2 * zdist (pHo P r) twr else 0) r + (if (b k).testBit r then 2 * zdist (pHo P r) twr else 0) := rfl
            rw [e] at ih2
            by_cases w : (b k).testBit r = true
            · rw [if_pos w] at ih2
              rw [if_pos w, show (1 : Int32) * 2 = nI 2 from rfl, pk_mul, nI_add, Nat.add_assoc]
              exact ih2
            · rw [if_neg w, Nat.add_zero] at ih2
              rw [if_neg w, show (0 : Int32) * 2 = 0 from rfl, Int32.zero_mul, Int32.add_zero]
              exact ih2
        refine zb_go (zg_iconst 0 (by decide)) rfl ?_
        refine zb_go (zg_istore (by decide)) rfl ?_
        refine zb_out ?_
        exact inner 0 (by omega)
  refine kX6_weigh_0 ?_
  refine zb_go (zg_iload_n rfl) rfl ?_
  refine zb_br (zg_if_eq (tgt := 35) (by decide)) rfl (fun c0 => ?_) (fun c0 => ?_)
  · refine kX6_weigh_35 ?_
    refine zb_go (zg_iconst 0 (by decide)) rfl ?_
    refine zb_go (zg_istore_n (by decide)) rfl ?_
    refine zb_go (zg_iconst 0 (by decide)) rfl ?_
    refine zb_go (zg_istore_n (by decide)) rfl ?_
    refine zb_out ?_
    exact segA 0 (by omega) h rw hS (fun g hg => by omega) [] (fun w => by omega)
  · exact absurd rfl c0
end
