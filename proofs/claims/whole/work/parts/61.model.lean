/-! THE MODEL (12): goThrough -/
abbrev zW : Type := Int32 × Int32 × Int32 × Int32 × (Nat → Int32)
def wX (X : zX) (W : zW) : zX := match X with
  | (at_, st, so, va, fa, to, _, _, _, _) => (at_, st, so, va, fa, to, W.1, W.2.1, W.2.2.1, W.2.2.2.1)
def isW (hb h : zH) (tr : Int64) (ty : Int32) (X : zX) (W : zW) (pk se on tw th ru rw : Nat → Int32) : Prop := isS hb h tr ty (wX X W) pk se on tw th ru W.2.2.2.2 rw
/-- left out, by what it can reach -/
def wSkip (om : Bool) (R : Nat) (W : zW) : Prop := if om then nI R ≤ W.1 else nI R < W.1
theorem pfx.less {k : Nat} {b : Nat → Nat} {se on tw th ru : Nat → Int32} (hp : pfx (k + 1) b se on tw th ru) : pfx k b se on tw th ru :=
  ⟨fun g hg => hp.1 g (by omega), fun j hj => hp.2 j (by omega)⟩
section
variable {K : zK} {l : Launch} {n p q r g k s : Nat} {h h1 hb : zH} {x y z : Int32} {G : zS} {P : zP} {f : Nat → Int32} {T : zT} {tr : Int64} {ty : Int32} {X : zX} {pk se on tw th ru br rw : Nat → Int32} {wo : Nat} {at_ st so va fa to mo wa fe ev : Int32}
set_option maxHeartbeats 8000000 in
theorem r_X6_goThrough {om : Bool} {cr bo cm : Nat → Int32} {L : Nat → List Nat} {W : zW} {Inv : zW → Prop} {Dn : (Nat → Nat) → zW → Prop} (okp : okP P) (hP0 : mPar hb P) (q48 : hb 48 = .inl (0, 256, .inl cr)) (q49 : hb 49 = .inl (0, 256, .inl bo)) (q50 : hb 50 = .inl (0, 4, .inl cm)) (hL : mCrews P cr bo cm L)
    (Hc : ∀ W b b', (∀ g, g < 4 → b g = b' g) → Dn b W → Dn b' W)
    (Hsk : ∀ W R, Inv W → R ≤ 100 → wSkip om R W → ∀ b, bLaw P wo b → bRung b 4 ≤ R → Dn b W)
    (Hw : ∀ W b, Inv W → bLaw P wo b → bRung b 4 ≤ 100 → ¬ wSkip om (bRung b 4) W → ∀ h pk se on tw th ru rw, ∀ ix : Nat → Nat, isW hb h tr ty X W pk se on tw th ru rw → pfx 4 b se on tw th ru → (∀ g, g < 4 → pk g = nI (ix g) ∧ ix g < 64 ∧ bo (64 * g + ix g) = nI (bX P b g)) → zRex K l 3 mX6_weigh [.ref 34, .int (bI om)] 59 h (fun v h' => v = none ∧ ∃ W' rw', isW hb h' tr ty X W' pk se on tw th ru rw' ∧ Inv W' ∧ (∀ b', Dn b' W → Dn b' W') ∧ Dn b W'))
    (hS : isW hb h tr ty X W pk se on tw th ru rw) (hI : Inv W) (h0 : on 0 = 0 ∧ tw 0 = 0 ∧ th 0 = 0 ∧ ru 0 = 0) : zRex K l 4 mX6_goThrough [.ref 34, .int (nI wo), .int (bI om)] 59 h (fun v h' => v = none ∧ ∃ W' pk se on tw th ru rw, isW hb h' tr ty X W' pk se on tw th ru rw ∧ Inv W' ∧ (on 0 = 0 ∧ tw 0 = 0 ∧ th 0 = 0 ∧ ru 0 = 0) ∧ ∀ b, bLaw P wo b → Dn b W') := by
  refine zRex.of (by decide) (Nat.le_of_ble_eq_true rfl) (fun Q hQ => ?_)
  obtain ⟨at_, st, so, va, fa, to, mo0, wa0, fe0, ev0⟩ := X
  have HL : ∀ k, k ≤ 3 → ∀ (b ix : Nat → Nat), (∀ g, g < k → ((b g < 64 ∧ (zrow P g (b g)).isSome = true) ∧ bFol P wo b g (b g) = true) ∧ ix g < (L g).length ∧ b g = (L g).getD (ix g) 0) →
      ∀ i, i ≤ (L k).length → ∀ h W pk se on tw th ru rw, isW hb h tr ty (at_, st, so, va, fa, to, mo0, wa0, fe0, ev0) W pk se on tw th ru rw → Inv W → pfx k b se on tw th ru → (∀ g, g < k → pk g = nI (ix g)) → pk k = nI i - 1 →
      (∀ h' W' pk' se' on' tw' th' ru' rw', isW hb h' tr ty (at_, st, so, va, fa, to, mo0, wa0, fe0, ev0) W' pk' se' on' tw' th' ru' rw' → Inv W' → (∀ b', Dn b' W → Dn b' W') → (∀ b', bLaw P wo b' → (∀ g, g < k → b' g = b g) → (∃ j, i ≤ j ∧ j < (L k).length ∧ b' k = (L k).getD j 0) → Dn b' W') → pfx k b se' on' tw' th' ru' → (∀ g, g < k → pk' g = nI (ix g)) → zGo K l 4 mX6_goThrough 9 [(0, .ref 34), (1, .int (nI wo)), (2, .int (bI om)), (3, .int (nI k - 1))] [] 59 h' 0 0 Q) →
      zGo K l 4 mX6_goThrough 9 [(0, .ref 34), (1, .int (nI wo)), (2, .int (bI om)), (3, .int (nI k))] [] 59 h 0 0 Q := by
    refine z_down 3 (fun k hk3 ihd => ?_)
    intro b ix hb1
    have hk4 : k < 4 := by omega
    obtain ⟨⟨l1, l2, l3⟩, l4⟩ := hL k hk4
    have i4 : zIx (nI k) 4 k := zIx.nI (by omega) (by decide)
    have i5 : zIx (nI k) 5 k := zIx.nI (by omega) (by decide)
    refine z_down (L k).length (fun i hi ih h W pk se on tw th ru rw hS hI hp hpk hpk1 kont => ?_)
    obtain ⟨h1, c51, c52, c53, c54, c55, c56, c57, c58, hsm⟩ := id hS
    have h34' := h1
    have h1 : h 34 = .inr _ := h1
    have c48 : h 48 = _ := (hsm 48 (by omega) (by omega)).trans q48
    have c50 : h 50 = _ := (hsm 50 (by omega) (by omega)).trans q50
    have hkk : ¬ nI k < 0 := nI_pos (by omega)
    -- the next crew
    have ei : pk k + 1 = nI i := by rw [hpk1, Int32.sub_add_cancel]
    have hS1 : isW hb (z_up h 51 (.inl (0, 4, .inl (upd pk k (nI i))))) tr ty (at_, st, so, va, fa, to, mo0, wa0, fe0, ev0) W (upd pk k (nI i)) se on tw th ru rw := ⟨(z_up_ne (by decide)).trans h34', z_up_self _ _ _, (z_up_ne (by decide)).trans c52, (z_up_ne (by decide)).trans c53, (z_up_ne (by decide)).trans c54, (z_up_ne (by decide)).trans c55, (z_up_ne (by decide)).trans c56, (z_up_ne (by decide)).trans c57, (z_up_ne (by decide)).trans c58, fun j hj1 hj2 => (z_up_ne (by omega)).trans (hsm j hj1 hj2)⟩
    have hpk2 : ∀ g, g < k → upd pk k (nI i) g = nI (ix g) := fun g hg => by rw [pk_un (by omega)]; exact hpk g hg
    have again : ∀ h2 W2 pk2 se2 on2 tw2 th2 ru2 rw2, isW hb h2 tr ty (at_, st, so, va, fa, to, mo0, wa0, fe0, ev0) W2 pk2 se2 on2 tw2 th2 ru2 rw2 → Inv W2 → pfx k b se2 on2 tw2 th2 ru2 → (∀ g, g < k → pk2 g = nI (ix g)) → pk2 k = nI i → i < (L k).length → (∀ b', Dn b' W → Dn b' W2) → (∀ b', bLaw P wo b' → (∀ g, g < k → b' g = b g) → b' k = (L k).getD i 0 → Dn b' W2) → ∀ ls, zGo K l 4 mX6_goThrough 9 ((0, .ref 34) :: (1, .int (nI wo)) :: (2, .int (bI om)) :: (3, .int (nI k)) :: ls) [] 59 h2 0 0 Q := by
      intro h2 W2 pk2 se2 on2 tw2 th2 ru2 rw2 hS2 hI2 hp2 hpk2 hpk3 hi2 hD1 hD2 ls
      refine zg_sub [(0, .ref 34), (1, .int (nI wo)), (2, .int (bI om)), (3, .int (nI k))] (fun q hq => List.mem_append_left ls hq) ?_
      refine ih hi2 h2 W2 pk2 se2 on2 tw2 th2 ru2 rw2 hS2 hI2 hp2 hpk2 (by rw [hpk3, nI_pred]) (fun h' W' pk' se' on' tw' th' ru' rw' a1 a2 a3 a4 a5 a6 => kont h' W' pk' se' on' tw' th' ru' rw' a1 a2 (fun b' hb' => a3 b' (hD1 b' hb')) (fun b' hb' hag hj => ?_) a5 a6)
      obtain ⟨j, j1, j2, j3⟩ := hj
      by_cases w : j = i
      · exact a3 b' (hD2 b' hb' hag (by rw [j3, w]))
      · exact a4 b' hb' hag ⟨j, by omega, j2, j3⟩
    refine kX6_goThrough_9 ?_
    refine zb_go (zg_iload_n rfl) rfl ?_
    refine zb_br (zg_if_lt (tgt := 153) (by decide)) rfl (fun c0 => ?_) (fun c0 => ?_)
    · exact absurd c0 hkk
    · refine zb_go (zg_aload_n rfl) rfl ?_
      refine zb_go (zg_getfield fX6_60 (by first | decide | assumption | omega) (by repeat (first | assumption | exact z_up_self _ _ _ | refine (z_up_ne (by first | decide | omega)).trans ?_)) (by rfl)) rfl ?_
      refine zb_go (zg_iload_n rfl) rfl ?_
      refine zb_go (zg_dup2 rfl rfl) rfl ?_
      refine zb_go (zi_iaload (by first | decide | assumption | omega) (by repeat (first | assumption | exact z_up_self _ _ _ | refine (z_up_ne (by first | decide | omega)).trans ?_)) i4) rfl ?_
      refine zb_go (zg_iconst 1 (by decide)) rfl ?_
      refine zb_go zg_iadd rfl ?_
      rw [ei]
      refine zb_go (zi_iastore (by first | decide | assumption | omega) (by repeat (first | assumption | exact z_up_self _ _ _ | refine (z_up_ne (by first | decide | omega)).trans ?_)) i4) rfl ?_
      refine zb_go (zg_aload_n rfl) rfl ?_
      refine zb_go (zg_getfield fX6_60 (by first | decide | assumption | omega) (by repeat (first | assumption | exact z_up_self _ _ _ | refine (z_up_ne (by first | decide | omega)).trans ?_)) (by rfl)) rfl ?_
      refine zb_go (zg_iload_n rfl) rfl ?_
      refine zb_go (zi_iaload (by first | decide | assumption | omega) (by repeat (first | assumption | exact z_up_self _ _ _ | refine (z_up_ne (by first | decide | omega)).trans ?_)) i4) rfl ?_
      rw [pk_us]
      refine zb_go (zg_aload_n rfl) rfl ?_
      refine zb_go (zg_getfield fX6_57 (by first | decide | assumption | omega) (by repeat (first | assumption | exact z_up_self _ _ _ | refine (z_up_ne (by first | decide | omega)).trans ?_)) (by rfl)) rfl ?_
      refine zb_go (zg_iload_n rfl) rfl ?_
      refine zb_go (zi_iaload (by first | decide | assumption | omega) (by repeat (first | assumption | exact z_up_self _ _ _ | refine (z_up_ne (by first | decide | omega)).trans ?_)) i4) rfl ?_
      rw [l1]
      have kl := l2
      refine zb_br (zg_icmp_ne (tgt := 44) (by decide)) rfl (fun c1 => ?_) (fun c1 => ?_)
      · have c1 : i ≠ (L k).length := fun w => c1 (by rw [w])
        have hi2 : i < (L k).length := by omega
        obtain ⟨e1, e2⟩ := l3 i hi2
        obtain ⟨s, es⟩ : ∃ s, (L k).getD i 0 = s := ⟨_, rfl⟩
        rw [es] at e1 e2
        have hmem : s ∈ L k := by rw [← es, z_getD hi2]; exact List.getElem_mem hi2
        obtain ⟨s64, srow⟩ := (l4.1 _).mp hmem
        have kp := zpop_le s
        have kB : bRung b k ≤ k * 6 := zsum_le (fun i _ => zpop_le _)
        have kB2 : k * 6 ≤ 3 * 6 := Nat.mul_le_mul_right 6 hk3
        have kW : bWf P (k + 1) ≤ (4 - (k + 1)) * 3 := zsum_le (fun i _ => wN_le okp _)
        have i256 : zIx (nI (64 * k + i)) 256 (64 * k + i) := zIx.nI (by omega) (by decide)
        obtain ⟨p1, p2, p3, p4⟩ := hp.2 k (Nat.le_refl _)
        have hP1 : mPar (z_up h 51 (.inl (0, 4, .inl (upd pk k (nI i))))) P := hS1.par hP0
        have h134 : ∃ tr ty X, z_up h 51 (.inl (0, 4, .inl (upd pk k (nI i)))) 34 = mObj tr ty X := ⟨_, _, _, hS1.1⟩
        obtain ⟨R, eR⟩ : ∃ R, bRung b k + zpop s + bWf P (k + 1) = R := ⟨_, rfl⟩
        have skip : (∀ b', bLaw P wo b' → (∀ g, g < k → b' g = b g) → b' k = s → Dn b' W) → zGo K l 4 mX6_goThrough 150 [(0, .ref 34), (1, .int (nI wo)), (2, .int (bI om)), (3, .int (nI k)), (4, .int (nI s)), (5, .int (nI R))] [] 59 (z_up h 51 (.inl (0, 4, .inl (upd pk k (nI i))))) 0 0 Q := by
          intro hz
          refine kX6_goThrough_150 ?_
          refine zb_end (zg_goto (tgt := 9) (by decide) ?_) rfl
          exact again _ W _ se on tw th ru rw hS1 hI hp hpk2 pk_us hi2 (fun b' h => h) (fun b' hb' hag hk' => hz b' hb' hag (by rw [hk', es])) [(4, _), (5, _)]
        have try1 : ¬ wSkip om R W → zGo K l 4 mX6_goThrough 109 [(0, .ref 34), (1, .int (nI wo)), (2, .int (bI om)), (3, .int (nI k)), (4, .int (nI s)), (5, .int (nI R))] [] 59 (z_up h 51 (.inl (0, 4, .inl (upd pk k (nI i))))) 0 0 Q := by
          intro hns
          have g1 : z_up h 51 (.inl (0, 4, .inl (upd pk k (nI i)))) 34 = .inr _ := hS1.1
          refine kX6_goThrough_109 ?_
          refine zb_go (zg_aload_n rfl) rfl ?_
          refine zb_go (zg_iload_n rfl) rfl ?_
          refine zb_go (zg_iload rfl) rfl ?_
          refine zb_go (zg_iload_n rfl) rfl ?_
          refine zb_callv (r_X6_mayFollow hS1 hP0 okp hk4 hp s64) lX6_207 (by repeat (first | assumption | exact z_up_self _ _ _ | refine (z_up_ne (by first | decide | omega)).trans ?_)) rfl rfl (by first | decide | assumption | omega) (by first | decide | omega) rfl (Nat.le_of_ble_eq_true rfl) rfl ?_
          refine zb_br (zg_if_eq (tgt := 150) (by decide)) rfl (fun c2 => ?_) (fun c2 => ?_)
          · have c2 := bI_0.mp c2
            refine skip (fun b' hb' hag hk' => ?_)
            have := (hb' k hk4).2
            rw [hk', bFol_congr okp hk4 hag, c2] at this
            cases this
          · have c2 := bI_n.mp c2
            have hne : ∀ g, g < k → b g = zupd b k s g := fun g hg => by unfold zupd; rw [if_neg (by omega)]
            have hat : zupd b k s k = s := if_pos rfl
            have hb2 : ∀ g, g < k + 1 → ((zupd b k s g < 64 ∧ (zrow P g (zupd b k s g)).isSome = true) ∧ bFol P wo (zupd b k s) g (zupd b k s g) = true) ∧ zupd ix k i g < (L g).length ∧ zupd b k s g = (L g).getD (zupd ix k i g) 0 := fun g hg => by
              by_cases w : g = k
              · subst w
                have hxi : zupd ix g i g = i := if_pos rfl
                rw [hat, hxi, es]
                refine ⟨⟨⟨s64, srow⟩, ?_⟩, hi2, rfl⟩
                rw [← bFol_congr okp hk4 hne]
                exact c2
              · have hg2 : g < k := by omega
                have hxi : zupd ix k i g = ix g := if_neg w
                rw [← hne g hg2, hxi, ← bFol_congr okp (by omega) (fun j hj => hne j (by omega))]
                exact hb1 g hg2
            refine zb_go (zg_aload_n rfl) rfl ?_
            refine zb_go (zg_iload_n rfl) rfl ?_
            refine zb_go (zg_iload rfl) rfl ?_
            refine zb_callvx (r_X6_follow hS1 hk4 hp s64) lX6_210 (by repeat (first | assumption | exact z_up_self _ _ _ | refine (z_up_ne (by first | decide | omega)).trans ?_)) rfl rfl (by first | decide | assumption | omega) (by first | decide | omega) rfl (Nat.le_of_ble_eq_true rfl) rfl ?_
            rintro v h2 ⟨rfl, se2, on2, tw2, th2, ru2, hS2, hp2⟩
            have hS2' : isW hb h2 tr ty (at_, st, so, va, fa, to, mo0, wa0, fe0, ev0) W (upd pk k (nI i)) se2 on2 tw2 th2 ru2 rw := hS2
            have g2 : h2 34 = .inr _ := hS2.1
            have hpfx : pfx k b se2 on2 tw2 th2 ru2 := hp2.less.congr (fun g hg => (hne g hg).symm)
            refine zb_go (zg_iload_n rfl) rfl ?_
            refine zb_go (zg_iconst 3 (by decide)) rfl ?_
            refine zb_br (zg_icmp_ne (tgt := 140) (by decide)) rfl (fun c3 => ?_) (fun c3 => ?_)
            · have c3 : k ≠ 3 := fun w => c3 (by rw [w]; rfl)
              have hk5 : k < 3 := by omega
              have j4 : zIx (nI (k + 1)) 4 (k + 1) := zIx.nI (by omega) (by decide)
              obtain ⟨s1, s2, s3, s4, s5, s6, s7, s8, s9, s10⟩ := id hS2
              refine kX6_goThrough_140 ?_
              refine zb_go (zg_iinc 1 (by decide) rfl (by decide)) rfl ?_
              refine zb_go (zg_aload_n rfl) rfl ?_
              refine zb_go (zg_getfield fX6_60 (by first | decide | assumption | omega) (by repeat (first | assumption | exact z_up_self _ _ _ | refine (z_up_ne (by first | decide | omega)).trans ?_)) (by rfl)) rfl ?_
              refine zb_go (zg_iload_n rfl) rfl ?_
              rw [nI_1]
              refine zb_go (zg_iconst (-1) (by decide)) rfl ?_
              refine zb_go (zi_iastore (by first | decide | assumption | omega) (by repeat (first | assumption | exact z_up_self _ _ _ | refine (z_up_ne (by first | decide | omega)).trans ?_)) j4) rfl ?_
              refine zb_out ?_
              refine kX6_goThrough_150 ?_
              refine zb_end (zg_goto (tgt := 9) (by decide) ?_) rfl
              refine zg_keep [0, 1, 2, 3] ?_
              refine ihd hk5 (zupd b k s) (zupd ix k i) hb2 0 (Nat.zero_le _) _ W (upd (upd pk k (nI i)) (k + 1) (-1)) se2 on2 tw2 th2 ru2 rw ⟨(z_up_ne (by decide)).trans s1, z_up_self _ _ _, (z_up_ne (by decide)).trans s3, (z_up_ne (by decide)).trans s4, (z_up_ne (by decide)).trans s5, (z_up_ne (by decide)).trans s6, (z_up_ne (by decide)).trans s7, (z_up_ne (by decide)).trans s8, (z_up_ne (by decide)).trans s9, fun j hj1 hj2 => (z_up_ne (by omega)).trans (s10 j hj1 hj2)⟩ hI hp2 (fun g hg => ?_) ?_ (fun h' W' pk' se' on' tw' th' ru' rw' a1 a2 a3 a4 a5 a6 => ?_)
              · rw [pk_un (by omega)]
                by_cases w : g = k
                · rw [w, pk_us]; exact (congrArg nI (if_pos rfl)).symm
                · rw [pk_un w, hpk g (by omega)]; exact (congrArg nI (if_neg w)).symm
              · rw [pk_us]; rfl
              · rw [nI_pred]
                refine again h' W' pk' se' on' tw' th' ru' rw' a1 a2 (a5.less.congr (fun g hg => (hne g hg).symm)) (fun g hg => ?_) ?_ hi2 a3 (fun b' hb' hag hk' => ?_) []
                · rw [a6 g (by omega)]; exact congrArg nI (if_neg (by omega))
                · rw [a6 k (by omega)]; exact congrArg nI (if_pos rfl)
                · have hm2 := (hb' (k + 1) (by omega)).1
                  have hmem2 := ((hL (k + 1) (by omega)).2.1 _).mpr hm2
                  obtain ⟨j, hj, hje⟩ := List.getElem_of_mem hmem2
                  refine a4 b' hb' (fun g hg => ?_) ⟨j, Nat.zero_le _, hj, by rw [z_getD hj, hje]⟩
                  by_cases w : g = k
                  · rw [w, hat, hk', es]
                  · rw [← hne g (by omega)]; exact hag g (by omega)
            · have c3 : k = 3 := (nI_eq (b := 3) (by omega) (by decide)).mp c3
              subst c3
              have hlaw : bLaw P wo (zupd b 3 s) := fun g hg => (hb2 g hg).1
              have eRR : bRung (zupd b 3 s) 4 = R := by
                rw [← eR]
                show bRung (zupd b 3 s) 3 + zpop (zupd b 3 s 3) = bRung b 3 + zpop s + 0
                rw [hat, bRung_congr (fun g hg => (hne g hg).symm), Nat.add_zero]
              have hrows : ∀ g, g < 4 → upd pk 3 (nI i) g = nI (zupd ix 3 i g) ∧ zupd ix 3 i g < 64 ∧ bo (64 * g + zupd ix 3 i g) = nI (bX P (zupd b 3 s) g) := fun g hg => by
                obtain ⟨-, x1, x2⟩ := hb2 g hg
                obtain ⟨⟨m1, m2, m3⟩, m4⟩ := hL g hg
                refine ⟨?_, by omega, ?_⟩
                · by_cases w : g = 3
                  · rw [w, pk_us]; exact (congrArg nI (if_pos rfl)).symm
                  · rw [pk_un w, hpk g (by omega)]; exact (congrArg nI (if_neg w)).symm
                · rw [(m3 _ x1).2, ← x2]; rfl
              have hw3 := Hw W (zupd b 3 s) hI hlaw (by omega) (by rw [eRR]; exact hns) h2 _ se2 on2 tw2 th2 ru2 rw (zupd ix 3 i) hS2' hp2 hrows
              refine zb_go (zg_aload_n rfl) rfl ?_
              refine zb_go (zg_iload_n rfl) rfl ?_
              refine zb_callvx hw3 lX6_213 (by repeat (first | assumption | exact z_up_self _ _ _ | refine (z_up_ne (by first | decide | omega)).trans ?_)) rfl rfl (by first | decide | assumption | omega) (by first | decide | omega) rfl (Nat.le_of_ble_eq_true rfl) rfl ?_
              rintro v h3 ⟨rfl, W3, rw3, hS3, hI3, hD3, hD4⟩
              refine zb_end (zg_goto (tgt := 150) (by decide) ?_) rfl
              refine kX6_goThrough_150 ?_
              refine zb_end (zg_goto (tgt := 9) (by decide) ?_) rfl
              refine again h3 W3 _ se2 on2 tw2 th2 ru2 rw3 hS3 hI3 hpfx hpk2 pk_us hi2 hD3 (fun b' hb' hag hk' => Hc _ _ _ (fun g hg => ?_) hD4) [(4, _), (5, _)]
              by_cases w : g = 3
              · rw [w, hat, hk', es]
              · rw [← hne g (by omega)]; exact (hag g (by omega)).symm
        have hskip : wSkip om R W → ∀ b', bLaw P wo b' → (∀ g, g < k → b' g = b g) → b' k = s → Dn b' W := fun hz b' hb' hag hk' => by
          refine Hsk W R hI (by omega) hz b' hb' ?_
          have := zrow_pRun hb' hk4
          rw [hk', bRung_congr hag] at this
          omega
        have g1 : z_up h 51 (.inl (0, 4, .inl (upd pk k (nI i)))) 34 = .inr _ := hS1.1
        have g48 : z_up h 51 (.inl (0, 4, .inl (upd pk k (nI i)))) 48 = _ := (z_up_ne (by decide)).trans c48
        refine kX6_goThrough_44 ?_
        refine zb_go (zg_aload_n rfl) rfl ?_
        refine zb_go (zg_getfield fX6_51 (by first | decide | assumption | omega) (by repeat (first | assumption | exact z_up_self _ _ _ | refine (z_up_ne (by first | decide | omega)).trans ?_)) (by rfl)) rfl ?_
        refine zb_go (zg_bipush 64 (by decide)) rfl ?_
        refine zb_go (zg_iload_n rfl) rfl ?_
        refine zb_go zg_imul rfl ?_
        rw [show (64 : Int32) * nI k = nI (64 * k) from pk_mul 64 k]
        refine zb_go (zg_aload_n rfl) rfl ?_
        refine zb_go (zg_getfield fX6_60 (by first | decide | assumption | omega) (by repeat (first | assumption | exact z_up_self _ _ _ | refine (z_up_ne (by first | decide | omega)).trans ?_)) (by rfl)) rfl ?_
        refine zb_go (zg_iload_n rfl) rfl ?_
        refine zb_go (zi_iaload (by first | decide | assumption | omega) (by repeat (first | assumption | exact z_up_self _ _ _ | refine (z_up_ne (by first | decide | omega)).trans ?_)) i4) rfl ?_
        rw [pk_us]
        refine zb_go zg_iadd rfl ?_
        rw [nI_add]
        refine zb_go (zi_iaload (by first | decide | assumption | omega) (by repeat (first | assumption | exact z_up_self _ _ _ | refine (z_up_ne (by first | decide | omega)).trans ?_)) i256) rfl ?_
        rw [e1]
        refine zb_go (zg_istore (by decide)) rfl ?_
        refine zb_go (zg_aload_n rfl) rfl ?_
        refine zb_go (zg_getfield fX6_75 (by first | decide | assumption | omega) (by repeat (first | assumption | exact z_up_self _ _ _ | refine (z_up_ne (by first | decide | omega)).trans ?_)) (by rfl)) rfl ?_
        refine zb_go (zg_iload_n rfl) rfl ?_
        refine zb_go (zi_iaload (by first | decide | assumption | omega) (by repeat (first | assumption | exact z_up_self _ _ _ | refine (z_up_ne (by first | decide | omega)).trans ?_)) i5) rfl ?_
        rw [p4]
        refine zb_go (zg_iload rfl) rfl ?_
        refine zb_calls (r_X6_bitsIn s64) lX6_179 rfl (by first | decide | omega) rfl (Nat.le_of_ble_eq_true rfl) rfl ?_
        refine zb_go zg_iadd rfl ?_
        rw [nI_add]
        refine zb_go (zg_aload_n rfl) rfl ?_
        refine zb_go (zg_iload_n rfl) rfl ?_
        refine zb_go (zg_iconst 1 (by decide)) rfl ?_
        refine zb_go zg_iadd rfl ?_
        rw [nI_1]
        refine zb_callv (r_X6_wantedFrom h134 hP1 okp (by omega)) lX6_204 (by repeat (first | assumption | exact z_up_self _ _ _ | refine (z_up_ne (by first | decide | omega)).trans ?_)) rfl rfl (by first | decide | assumption | omega) (by first | decide | omega) rfl (Nat.le_of_ble_eq_true rfl) rfl ?_
        refine zb_go zg_iadd rfl ?_
        rw [nI_add, eR]
        refine zb_go (zg_istore (by decide)) rfl ?_
        refine zb_go (zg_iload_n rfl) rfl ?_
        refine zb_br (zg_if_eq (tgt := 100) (by decide)) rfl (fun c2 => ?_) (fun c2 => ?_)
        · have e := bI_0.mp c2
          subst e
          refine kX6_goThrough_100 ?_
          refine zb_go (zg_iload rfl) rfl ?_
          refine zb_go (zg_aload_n rfl) rfl ?_
          refine zb_go (zg_getfield fX6_188 (by first | decide | assumption | omega) (by repeat (first | assumption | exact z_up_self _ _ _ | refine (z_up_ne (by first | decide | omega)).trans ?_)) (by rfl)) rfl ?_
          refine zb_br (zg_icmp_lt (tgt := 150) (by decide)) rfl (fun c3 => ?_) (fun c3 => ?_)
          · exact skip (hskip c3)
          · refine zb_out ?_
            exact try1 c3
        · have e := bI_n.mp c2
          subst e
          refine zb_go (zg_iload rfl) rfl ?_
          refine zb_go (zg_aload_n rfl) rfl ?_
          refine zb_go (zg_getfield fX6_188 (by first | decide | assumption | omega) (by repeat (first | assumption | exact z_up_self _ _ _ | refine (z_up_ne (by first | decide | omega)).trans ?_)) (by rfl)) rfl ?_
          refine zb_br (zg_icmp_le (tgt := 150) (by decide)) rfl (fun c3 => ?_) (fun c3 => ?_)
          · exact skip (hskip c3)
          · refine zb_end (zg_goto (tgt := 109) (by decide) ?_) rfl
            exact try1 c3
      · have c1 : i = (L k).length := (nI_eq (by omega) (by omega)).mp c1
        have em : nI k + -1 = nI k - 1 := by rw [Int32.sub_eq_add_neg]
        refine zb_go (zg_iinc (-1) (by decide) rfl (by decide)) rfl ?_
        refine zb_end (zg_goto (tgt := 9) (by decide) ?_) rfl
        rw [em]
        exact kont _ W _ se on tw th ru rw hS1 hI (fun b' h => h) (fun b' _ _ hj => by obtain ⟨j, j1, j2, j3⟩ := hj; omega) hp hpk2
  obtain ⟨h1, c51, c52, c53, c54, c55, c56, c57, c58, hsm⟩ := id hS
  have h34' := h1
  have h1 : h 34 = .inr _ := h1
  have i4 : zIx 0 4 0 := zIx.nI (k := 0) (by decide) (by decide)
  refine kX6_goThrough_0 ?_
  refine zb_go (zg_iconst 0 (by decide)) rfl ?_
  refine zb_go (zg_istore_n (by decide)) rfl ?_
  refine zb_go (zg_aload_n rfl) rfl ?_
  refine zb_go (zg_getfield fX6_60 (by first | decide | assumption | omega) (by repeat (first | assumption | exact z_up_self _ _ _ | refine (z_up_ne (by first | decide | omega)).trans ?_)) (by rfl)) rfl ?_
  refine zb_go (zg_iconst 0 (by decide)) rfl ?_
  refine zb_go (zg_iconst (-1) (by decide)) rfl ?_
  refine zb_go (zi_iastore (by first | decide | assumption | omega) (by repeat (first | assumption | exact z_up_self _ _ _ | refine (z_up_ne (by first | decide | omega)).trans ?_)) i4) rfl ?_
  refine zb_out ?_
  refine HL 0 (by omega) (fun _ => 0) (fun _ => 0) (fun g hg => by omega) 0 (Nat.zero_le _) _ W (upd pk 0 (-1)) se on tw th ru rw ⟨(z_up_ne (by decide)).trans h34', z_up_self _ _ _, (z_up_ne (by decide)).trans c52, (z_up_ne (by decide)).trans c53, (z_up_ne (by decide)).trans c54, (z_up_ne (by decide)).trans c55, (z_up_ne (by decide)).trans c56, (z_up_ne (by decide)).trans c57, (z_up_ne (by decide)).trans c58, fun j hj1 hj2 => (z_up_ne (by omega)).trans (hsm j hj1 hj2)⟩ hI ⟨fun g hg => by omega, fun j hj => ?_⟩ (fun g hg => by omega) pk_us (fun h' W' pk' se' on' tw' th' ru' rw' a1 a2 a3 a4 a5 a6 => ?_)
  · have : j = 0 := by omega
    subst this
    exact h0
  · refine kX6_goThrough_9 ?_
    refine zb_go (zg_iload_n rfl) rfl ?_
    refine zb_br (zg_if_lt (tgt := 153) (by decide)) rfl (fun c => ?_) (fun c => ?_)
    · refine kX6_goThrough_153 ?_
      refine zb_end (zg_return rfl ?_) rfl
      refine hQ _ _ ⟨rfl, W', pk', se', on', tw', th', ru', rw', a1, a2, a5.2 0 (Nat.le_refl _), fun b' hb' => a4 b' hb' (fun g hg => by omega) ?_⟩
      have hm2 := (hb' 0 (by omega)).1
      have hmem2 := ((hL 0 (by omega)).2.1 _).mpr hm2
      obtain ⟨j, hj, hje⟩ := List.getElem_of_mem hmem2
      exact ⟨j, Nat.zero_le _, hj, by rw [z_getD hj, hje]⟩
    · exact absurd (by decide) c
end
