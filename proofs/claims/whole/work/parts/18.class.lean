/-! THE CLASS (6): exchange, keep, back, mark -/
def canTake (P : zP) (T : zT) (r q : Nat) : Prop := ∀ g, g < pH P → T.1 q g ≠ 0 → (sBells P r g).testBit (T.1 q g - 1) = true
def tSwap (T : zT) (r q : Nat) : zT := (fun a b => if a = r then T.1 q b else if a = q then T.1 r b else T.1 a b, T.2.1, T.2.2)
noncomputable def sExch (G : zS) (x y : Int32) : Int32 × zS := zite ((iR G x ∧ iR G y) ∧ x ≠ y) (zite (canTake (gP G) (gT G) x.toNatClampNeg y.toNatClampNeg ∧ canTake (gP G) (gT G) y.toNatClampNeg x.toNatClampNeg) (nI (tN (gT G) y.toNatClampNeg + tN (gT G) x.toNatClampNeg), wT G (tSwap (gT G) x.toNatClampNeg y.toNatClampNeg)) (-2, G)) (-1, G)
theorem zsum_set (f : Nat → Nat) (v : Nat) {n r : Nat} (hr : r < n) : zsum (fun i => if i = r then v else f i) n + f r = zsum f n + v := by
  induction n with
  | zero => omega
  | succ n ih =>
    simp only [zsum]
    by_cases q : r = n
    · subst q
      rw [zsum_congr (q := f) (fun i hi => if_neg (by omega)), if_pos rfl]; omega
    · have := ih (by omega)
      rw [if_neg (Ne.symm q)]; omega
theorem tN_swap_r (T : zT) (r q : Nat) : tN (tSwap T r q) r = tN T q := zcnt_congr (fun b _ => by simp [tSwap])
theorem tN_swap_q {T : zT} {r q : Nat} (h : r ≠ q) : tN (tSwap T r q) q = tN T r := zcnt_congr (fun b _ => by simp [tSwap, Ne.symm h])
theorem tN_swap_o {T : zT} {r q a : Nat} (h1 : a ≠ r) (h2 : a ≠ q) : tN (tSwap T r q) a = tN T a := zcnt_congr (fun b _ => by simp [tSwap, h1, h2])
theorem tAll_swap {T : zT} {r q : Nat} (hr : r < 6) (hq : q < 6) (h : r ≠ q) : tAll (tSwap T r q) = tAll T := by
  have e : tAll (tSwap T r q) = zsum (fun i => if i = q then tN T r else if i = r then tN T q else tN T i) 6 := zsum_congr (fun i _ => by
    by_cases h1 : i = q
    · rw [if_pos h1, h1, tN_swap_q h]
    · rw [if_neg h1]
      by_cases h2 : i = r
      · simp only [h2, if_true, tN_swap_r]
      · simp only [h2, if_false, tN_swap_o h2 h1])
  have e1 := zsum_set (fun i => if i = r then tN T q else tN T i) (tN T r) hq
  have e2 := zsum_set (tN T) (tN T q) hr
  simp only [if_neg (Ne.symm h)] at e1
  rw [e]
  unfold tAll
  omega
theorem swap_eq (T : zT) (r q : Nat) (a b : Nat) : (tSwap T r q).1 a b = T.1 (if a = r then q else if a = q then r else a) b := by
  simp only [tSwap]
  split
  · rfl
  · split <;> rfl
theorem okT.swap {P : zP} {T : zT} {r q : Nat} (ok : okT P T) (hr : r < pR P) (hq : q < pR P) (hr6 : r < 6) (hq6 : q < 6) (h1 : canTake P T r q) (h2 : canTake P T q r) : okT P (tSwap T r q) := by
  obtain ⟨o1, o2, o3, o4, o5, o6⟩ := ok
  have e6 : ∀ a, a < 6 → (if a = r then q else if a = q then r else a) < 6 := by
    intro a ha; split
    · exact hq6
    · split
      · exact hr6
      · exact ha
  have einj : ∀ a b, (if a = r then q else if a = q then r else a) = (if b = r then q else if b = q then r else b) → a = b := by
    intro a b h
    split at h <;> split at h <;> (try split at h) <;> (try split at h) <;> omega
  refine ⟨fun a k ha hk h0 => ?_, fun a e k ha he hk h0 hae => ?_, fun a ha => ?_, fun a k j ha hk hj hne z1 z2 => ?_, o5, o6⟩
  · rw [swap_eq] at h0 ⊢
    obtain ⟨p1, p2, p3, p4⟩ := o1 _ k (e6 a ha) hk h0
    by_cases c1 : a = r
    · rw [if_pos c1] at h0 p3 ⊢
      rw [c1]
      exact ⟨hr, p2, p3, h1 k p2 h0⟩
    · rw [if_neg c1] at h0 p1 p3 p4 ⊢
      by_cases c2 : a = q
      · rw [if_pos c2] at h0 p3 ⊢
        rw [c2]
        exact ⟨hq, p2, p3, h2 k p2 h0⟩
      · rw [if_neg c2] at p1 p3 p4 ⊢
        exact ⟨p1, p2, p3, p4⟩
  · rw [swap_eq] at h0 hae
    rw [swap_eq] at hae
    exact einj a e (o2 _ _ k (e6 a ha) (e6 e he) hk h0 hae)
  · by_cases c1 : a = r
    · rw [c1, tN_swap_r]; exact o3 q hq6
    · by_cases c2 : a = q
      · rw [c2, tN_swap_q (fun z => c1 (c2.trans z.symm))]; exact o3 r hr6
      · rw [tN_swap_o c1 c2]; exact o3 a ha
  · rw [swap_eq] at z1 z2
    exact o4 _ k j (e6 a ha) hk hj hne z1 z2
theorem rB_swap {B : Nat → Int32} {T : zT} {r q : Nat} (hr : r < 6) (hq : q < 6) (h : rB B T) : rB (swB B r q 4) (tSwap T r q) := by
  intro a b ha hb
  have d1 : (4 * a + b) / 4 = a := by omega
  have d2 : (4 * a + b) % 4 = b := by omega
  rw [swap_eq]
  simp only [swB, d1, d2, hb, and_true]
  by_cases c1 : a = r
  · rw [if_pos c1, if_pos c1]; exact h q b hq hb
  · rw [if_neg c1, if_neg c1]
    by_cases c2 : a = q
    · rw [if_pos c2, if_pos c2]; exact h r b hr hb
    · rw [if_neg c2, if_neg c2]; exact h a b ha hb
section
variable {K : zK} {l : Launch} {n p q r g : Nat} {h : zH} {x y z : Int32} {G : zS}
theorem r_X5_canTakeOver (hC : cRel h G) (ok : okS G) (hr : r < 6) (hq : q < 6) : zRex K l 3 mX5_canTakeOver [.ref 0, .int (nI r), .int (nI q)] 59 h (fun v h' => h' = h ∧ zIf (canTake (gP G) (gT G) r q) v) := by
  have hqq := hq
  have hrr := hr
  revert hqq hrr
  generalize hqe : q = q0
  intro hrr hqq
  clear hqe
  refine zRex.of (by decide) (Nat.le_of_ble_eq_true rfl) (fun Q hQ => ?_)
  obtain ⟨p, q, P', N, kf, hpq, hat, hsc, hp, hq, ⟨S, B, hR, hB, hS⟩, hfi, hkf, hk2, hN, hNo, hi0, hi1⟩ := id hC
  have okp := ok.1
  have okt := ok.2.1
  have hpn : p + 5 < 59 := by omega
  have hat' : h 0 = _ := hat
  have h17 := hR.1
  have kH := okp.1
  have kR := okp.2.1
  have hp1 := hp.1
  have lp : ∀ k, k ≤ pH (gP G) → (∀ g, g < k → (gT G).1 q0 g ≠ 0 → (sBells (gP G) r g).testBit ((gT G).1 q0 g - 1) = true) → zGo K l 3 mX5_canTakeOver 2 [(0, .ref 0), (1, .int (nI r)), (2, .int (nI q0)), (3, .int (nI k))] [] 59 h 0 0 Q := by
    refine z_down _ (fun k hk ih hn => ?_)
    refine kX5_canTakeOver_2 ?_
    refine zb_go (zg_iload_n rfl) rfl ?_
    refine zb_go (zg_aload_n rfl) rfl ?_
    refine zb_go (zg_getfield fX5_19 (by first | assumption | decide | omega) (by repeat (first | assumption | exact z_up_self _ _ _ | refine (z_up_ne (by first | decide | omega)).trans ?_)) (by rfl)) rfl ?_
    refine zb_go (zg_getfield fX5_150 (by first | assumption | decide | omega) (by repeat (first | assumption | exact z_up_self _ _ _ | refine (z_up_ne (by first | decide | omega)).trans ?_)) (by rfl)) rfl ?_
    refine zb_br (zg_icmp_ge (tgt := 53) (by decide)) rfl (fun c => ?_) (fun c => ?_)
    · have e : k = pH (gP G) := by
        have := (nI_leI (by omega) (by omega)).mp c
        omega
      subst e
      refine kX5_canTakeOver_53 ?_
      refine zb_go (zg_iconst 1 (by decide)) rfl ?_
      refine zb_end (zg_ireturn rfl (by rfl) ?_) rfl
      exact hQ _ _ ⟨rfl, Or.inl ⟨hn, rfl⟩⟩
    · have hk4 : k < pH (gP G) := Nat.not_le.mp (fun q => c (nI_le q (by omega)))
      have le3 := okt.le okp (r := q0) (g := k) (by omega) (by omega)
      have nx : ((gT G).1 q0 k ≠ 0 → (sBells (gP G) r k).testBit ((gT G).1 q0 k - 1) = true) → ∀ g, g < k + 1 → (gT G).1 q0 g ≠ 0 → (sBells (gP G) r g).testBit ((gT G).1 q0 g - 1) = true := by
        intro hz g hg
        rcases Nat.lt_or_ge g k with z | z
        · exact hn g z
        · rw [show g = k by omega]; exact hz
      refine zb_go (zg_aload_n rfl) rfl ?_
      refine zb_go (zg_getfield fX5_29 (by first | assumption | decide | omega) (by repeat (first | assumption | exact z_up_self _ _ _ | refine (z_up_ne (by first | decide | omega)).trans ?_)) (by rfl)) rfl ?_
      refine zb_go (zg_iload_n rfl) rfl ?_
      refine zb_go (zg_iload_n rfl) rfl ?_
      refine zb_callv (r_X3_bellOf hR (by decide) (show q0 < 6 by omega) (show k < 4 by omega)) lX5_137 (by repeat (first | assumption | exact z_up_self _ _ _ | refine (z_up_ne (by first | decide | omega)).trans ?_)) rfl rfl (by first | assumption | decide | omega) (by decide) rfl (Nat.le_of_ble_eq_true rfl) rfl ?_
      refine zb_go (zg_istore (by decide)) rfl ?_
      refine zb_go (zg_iload rfl) rfl ?_
      refine zb_go (zg_bipush (-9) (by decide)) rfl ?_
      refine zb_br (zg_icmp_eq (tgt := 47) (by decide)) rfl (fun c1 => ?_) (fun c1 => ?_)
      · have h0 : (gT G).1 q0 k = 0 := by
          rcases Nat.eq_zero_or_pos ((gT G).1 q0 k) with z | z
          · exact z
          · exact absurd c1 ((rB_ne okp okt hB (by omega) (by omega)).mpr (by omega))
        refine kX5_canTakeOver_47 ?_
        refine zb_go (zg_iinc 1 (by decide) rfl (by decide)) rfl ?_
        refine zb_end (zg_goto (tgt := 2) (by decide) ?_) rfl
        rw [nI_1]
        refine zg_keep [0, 1, 2, 3] ?_
        exact ih hk4 (nx (fun z => absurd h0 z))
      · have h0 := (rB_ne okp okt hB (r := q0) (g := k) (by omega) (by omega)).mp c1
        have eB : B (4 * q0 + k) = nI ((gT G).1 q0 k - 1) := by rw [hB q0 k (by omega) (by omega), if_neg h0]
        have hw := (okt.1 q0 k (by omega) (by omega) h0).2.2.1
        rw [eB]
        refine zb_go (zg_aload_n rfl) rfl ?_
        refine zb_go (zg_getfield fX5_19 (by first | assumption | decide | omega) (by repeat (first | assumption | exact z_up_self _ _ _ | refine (z_up_ne (by first | decide | omega)).trans ?_)) (by rfl)) rfl ?_
        refine zb_go (zg_iload_n rfl) rfl ?_
        refine zb_go (zg_iload_n rfl) rfl ?_
        refine zb_go (zg_iload rfl) rfl ?_
        refine zb_callv (r_X2_canRing (r := r) (g := k) (b := (gT G).1 q0 k - 1) hp hpn okp (by omega) (by omega) (by omega)) lX5_118 (by repeat (first | assumption | exact z_up_self _ _ _ | refine (z_up_ne (by first | decide | omega)).trans ?_)) rfl rfl (by first | assumption | decide | omega) (by decide) rfl (Nat.le_of_ble_eq_true rfl) rfl ?_
        refine zb_br (zg_if_ne (tgt := 47) (by decide)) rfl (fun c2 => ?_) (fun c2 => ?_)
        · refine kX5_canTakeOver_47 ?_
          refine zb_go (zg_iinc 1 (by decide) rfl (by decide)) rfl ?_
          refine zb_end (zg_goto (tgt := 2) (by decide) ?_) rfl
          rw [nI_1]
          refine zg_keep [0, 1, 2, 3] ?_
          exact ih hk4 (nx (fun _ => (zb_n.mp c2).2))
        · refine zb_go (zg_iconst 0 (by decide)) rfl ?_
          refine zb_end (zg_ireturn rfl (by rfl) ?_) rfl
          exact hQ _ _ ⟨rfl, Or.inr ⟨fun z => zb_0.mp c2 ⟨⟨hk4, by omega⟩, z k hk4 h0⟩, rfl⟩⟩
  refine kX5_canTakeOver_0 ?_
  refine zb_go (zg_iconst 0 (by decide)) rfl ?_
  refine zb_go (zg_istore_n (by decide)) rfl ?_
  refine zb_out ?_
  exact lp 0 (Nat.zero_le _) (fun g hg => absurd hg (Nat.not_lt_zero _))
theorem r_X5_exchange (hC : cRel h G) (ok : okS G) : zRex K l 4 mX5_exchange [.ref 0, .int x, .int y] 59 h (fun v h' => v = some (.int (sExch G x y).1) ∧ cRel h' (sExch G x y).2 ∧ okS (sExch G x y).2 ∧ zSame 0 33 h h') := by
  refine zRex.of (by decide) (Nat.le_of_ble_eq_true rfl) (fun Q hQ => ?_)
  obtain ⟨p, q, P', N, kf, hpq, hat, hsc, hp, hq, ⟨S, B, hR, hB, hS⟩, hfi, hkf, hk2, hN, hNo, hi0, hi1⟩ := id hC
  have okp := ok.1
  have okt := ok.2.1
  have hpn : p + 5 < 59 := by omega
  have hat' : h 0 = _ := hat
  have h17 := hR.1
  have kH := okp.1
  have kR := okp.2.1
  have hp1 := hp.1
  unfold sExch at hQ
  have bad : ¬ ((iR G x ∧ iR G y) ∧ x ≠ y) → zGo K l 4 mX5_exchange 27 (lv_args 0 [.ref 0, .int x, .int y]) [] 59 h 0 0 Q := by
    intro hn
    rw [zite_f hn] at hQ
    refine kX5_exchange_27 ?_
    refine zb_go (zg_iconst (-1) (by decide)) rfl ?_
    refine zb_end (zg_ireturn rfl (by rfl) ?_) rfl
    exact hQ _ _ ⟨rfl, hC, ok, zSame.rf⟩
  refine kX5_exchange_0 ?_
  refine zb_go (zg_aload_n rfl) rfl ?_
  refine zb_go (zg_getfield fX5_19 (by first | assumption | decide | omega) (by repeat (first | assumption | exact z_up_self _ _ _ | refine (z_up_ne (by first | decide | omega)).trans ?_)) (by rfl)) rfl ?_
  refine zb_go (zg_iload_n rfl) rfl ?_
  refine zb_callv (r_X2_hasRinger hp hpn) lX5_76 (by repeat (first | assumption | exact z_up_self _ _ _ | refine (z_up_ne (by first | decide | omega)).trans ?_)) rfl rfl (by first | assumption | decide | omega) (by decide) rfl (Nat.le_of_ble_eq_true rfl) rfl ?_
  refine zb_br (zg_if_eq (tgt := 27) (by decide)) rfl (fun c0 => ?_) (fun c0 => ?_)
  · have c0 := zb_0.mp c0
    exact bad (fun q => c0 q.1.1)
  · have c0' := zb_n.mp c0
    have c0 : iR G x := c0'
    refine zb_go (zg_aload_n rfl) rfl ?_
    refine zb_go (zg_getfield fX5_19 (by first | assumption | decide | omega) (by repeat (first | assumption | exact z_up_self _ _ _ | refine (z_up_ne (by first | decide | omega)).trans ?_)) (by rfl)) rfl ?_
    refine zb_go (zg_iload_n rfl) rfl ?_
    refine zb_callv (r_X2_hasRinger hp hpn) lX5_76 (by repeat (first | assumption | exact z_up_self _ _ _ | refine (z_up_ne (by first | decide | omega)).trans ?_)) rfl rfl (by first | assumption | decide | omega) (by decide) rfl (Nat.le_of_ble_eq_true rfl) rfl ?_
    refine zb_br (zg_if_eq (tgt := 27) (by decide)) rfl (fun c1 => ?_) (fun c1 => ?_)
    · have c1 := zb_0.mp c1
      exact bad (fun q => c1 q.1.2)
    · have c1' := zb_n.mp c1
      have c1 : iR G y := c1'
      refine zb_go (zg_iload_n rfl) rfl ?_
      refine zb_go (zg_iload_n rfl) rfl ?_
      refine zb_br (zg_icmp_ne (tgt := 29) (by decide)) rfl (fun c2 => ?_) (fun c2 => ?_)
      · rw [zite_t ⟨⟨c0, c1⟩, c2⟩] at hQ
        obtain ⟨r, hr, rfl⟩ := z_isIx (by omega) c0
        obtain ⟨e, he, rfl⟩ := z_isIx (by omega) c1
        rw [nI_clamp (by omega), nI_clamp (by omega)] at hQ
        have hre : r ≠ e := fun z => c2 (by rw [z])
        have no : ¬ (canTake (gP G) (gT G) r e ∧ canTake (gP G) (gT G) e r) → zGo K l 4 mX5_exchange 47 (lv_args 0 [.ref 0, .int (nI r), .int (nI e)]) [] 59 h 0 0 Q := by
          intro hn
          rw [zite_f hn] at hQ
          refine kX5_exchange_47 ?_
          refine zb_go (zg_bipush (-2) (by decide)) rfl ?_
          refine zb_end (zg_ireturn rfl (by rfl) ?_) rfl
          exact hQ _ _ ⟨rfl, hC, ok, zSame.rf⟩
        refine kX5_exchange_29 ?_
        refine zb_go (zg_aload_n rfl) rfl ?_
        refine zb_go (zg_iload_n rfl) rfl ?_
        refine zb_go (zg_iload_n rfl) rfl ?_
        refine zb_callvx (r_X5_canTakeOver (r := r) (q := e) hC ok (by omega) (by omega)) lX5_144 (by repeat (first | assumption | exact z_up_self _ _ _ | refine (z_up_ne (by first | decide | omega)).trans ?_)) rfl rfl (by first | assumption | decide | omega) (by decide) rfl (Nat.le_of_ble_eq_true rfl) rfl ?_
        rintro v h' ⟨rfl, ⟨t1, rfl⟩ | ⟨t1, rfl⟩⟩
        · refine zb_br (zg_if_eq (tgt := 47) (by decide)) rfl (fun c3 => ?_) (fun c3 => ?_)
          · exact absurd c3 (by decide)
          · refine zb_go (zg_aload_n rfl) rfl ?_
            refine zb_go (zg_iload_n rfl) rfl ?_
            refine zb_go (zg_iload_n rfl) rfl ?_
            refine zb_callvx (r_X5_canTakeOver (r := e) (q := r) hC ok (by omega) (by omega)) lX5_144 (by repeat (first | assumption | exact z_up_self _ _ _ | refine (z_up_ne (by first | decide | omega)).trans ?_)) rfl rfl (by first | assumption | decide | omega) (by decide) rfl (Nat.le_of_ble_eq_true rfl) rfl ?_
            rintro v h' ⟨rfl, ⟨t2, rfl⟩ | ⟨t2, rfl⟩⟩
            · refine zb_br (zg_if_ne (tgt := 50) (by decide)) rfl (fun c4 => ?_) (fun c4 => ?_)
              · rw [zite_t ⟨t1, t2⟩] at hQ
                refine kX5_exchange_50 ?_
                refine zb_go (zg_aload_n rfl) rfl ?_
                refine zb_go (zg_getfield fX5_29 (by first | assumption | decide | omega) (by repeat (first | assumption | exact z_up_self _ _ _ | refine (z_up_ne (by first | decide | omega)).trans ?_)) (by rfl)) rfl ?_
                refine zb_go (zg_iload_n rfl) rfl ?_
                refine zb_go (zg_iload_n rfl) rfl ?_
                refine zb_callvx (r_X3_swap hR (by decide) (show r < 6 by omega) (show e < 6 by omega) hre) lX5_147 (by repeat (first | assumption | exact z_up_self _ _ _ | refine (z_up_ne (by first | decide | omega)).trans ?_)) rfl rfl (by first | assumption | decide | omega) (by decide) rfl (Nat.le_of_ble_eq_true rfl) rfl ?_
                rintro v h1 ⟨rfl, hR1, hs⟩
                have gat : h1 0 = _ := (hs 0 (by omega)).trans hat'
                have g17 := hR1.1
                have okT' := okt.swap hr he (by omega) (by omega) t1 t2
                have hB' := rB_swap (show r < 6 by omega) (show e < 6 by omega) hB
                refine zb_go (zg_aload_n rfl) rfl ?_
                refine zb_go (zg_getfield fX5_29 (by first | assumption | decide | omega) (by repeat (first | assumption | exact z_up_self _ _ _ | refine (z_up_ne (by first | decide | omega)).trans ?_)) (by rfl)) rfl ?_
                refine zb_go (zg_iload_n rfl) rfl ?_
                refine zb_callv (r_X3_timesOf hR1 (by decide) (show r < 6 by omega)) lX5_93 (by repeat (first | assumption | exact z_up_self _ _ _ | refine (z_up_ne (by first | decide | omega)).trans ?_)) rfl rfl (by first | assumption | decide | omega) (by decide) rfl (Nat.le_of_ble_eq_true rfl) rfl ?_
                refine zb_go (zg_aload_n rfl) rfl ?_
                refine zb_go (zg_getfield fX5_29 (by first | assumption | decide | omega) (by repeat (first | assumption | exact z_up_self _ _ _ | refine (z_up_ne (by first | decide | omega)).trans ?_)) (by rfl)) rfl ?_
                refine zb_go (zg_iload_n rfl) rfl ?_
                refine zb_callv (r_X3_timesOf hR1 (by decide) (show e < 6 by omega)) lX5_93 (by repeat (first | assumption | exact z_up_self _ _ _ | refine (z_up_ne (by first | decide | omega)).trans ?_)) rfl rfl (by first | assumption | decide | omega) (by decide) rfl (Nat.le_of_ble_eq_true rfl) rfl ?_
                refine zb_go zg_iadd rfl ?_
                refine zb_end (zg_ireturn rfl (by rfl) ?_) rfl
                rw [rT_eq okp okT' hB' (by omega), rT_eq okp okT' hB' (by omega), tN_swap_r, tN_swap_q hre, nI_add]
                refine hQ _ _ ⟨rfl, hC.rota hs ⟨S, _, by rw [tAll_swap (by omega) (by omega) hre]; exact hR1, hB', hS⟩ rfl, ok.wT okT', hs.wide (by omega) (by omega)⟩
              · exact absurd c4 (by decide)
            · refine zb_br (zg_if_ne (tgt := 50) (by decide)) rfl (fun c4 => ?_) (fun c4 => ?_)
              · exact absurd rfl c4
              · refine zb_out ?_
                refine kX5_exchange_47 ?_
                refine zb_go (zg_bipush (-2) (by decide)) rfl ?_
                refine zb_end (zg_ireturn rfl (by rfl) ?_) rfl
                rw [zite_f (fun q => t2 q.2)] at hQ
                exact hQ _ _ ⟨rfl, hC, ok, zSame.rf⟩
        · refine zb_br (zg_if_eq (tgt := 47) (by decide)) rfl (fun c3 => ?_) (fun c3 => ?_)
          · exact no (fun q => t1 q.1)
          · exact absurd rfl c3
      · refine zb_out ?_
        refine kX5_exchange_27 ?_
        refine zb_go (zg_iconst (-1) (by decide)) rfl ?_
        refine zb_end (zg_ireturn rfl (by rfl) ?_) rfl
        rw [zite_f (fun q => q.2 c2)] at hQ
        exact hQ _ _ ⟨rfl, hC, ok, zSame.rf⟩
end
