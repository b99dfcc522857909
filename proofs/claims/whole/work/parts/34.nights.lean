/-! NIGHTS (5): leastAfter, seek -/
def nTab (P : zP) (tw : Nat) (sets sin : Nat → Int32) (pr lw : Nat → Int64) : Prop :=
  ∀ g, g < 4 → ∃ L : List Nat, sin g = nI L.length ∧ L.length ≤ 64 ∧ (∀ i, i < L.length → sets (64 * g + i) = nI (L.getD i 0)) ∧ (∀ s, s ∈ L ↔ s < 64 ∧ (nPrice P tw g s).isSome = true) ∧
      (∀ i j, i ≤ j → j < L.length → (nPrice P tw g (L.getD i 0)).getD 0 ≤ (nPrice P tw g (L.getD j 0)).getD 0) ∧
      (∀ s, s < 64 → pr (64 * g + s) = lN ((nPrice P tw g s).getD (2 ^ 63 - 1))) ∧
      ∀ s, s < 64 → lw (64 * g + s) = lN (zmn (fun t => decide (t &&& s = t)) (fun t => (nPrice P tw g t).getD (2 ^ 63 - 1)) 64)
theorem z_ix64 {g s : Nat} (hg : g < 4) (hs : s < 64) : zIx (nI g * 64 + nI s) 256 (64 * g + s) := by
  rw [show (64 : Int32) = nI 64 from rfl, pk_mul, nI_add, show g * 64 + s = 64 * g + s by omega]
  exact zIx.nI (by omega) (by decide)
section
variable {K : zK} {l : Launch} {n p q r g k f am tn tw F paid : Nat} {h : zH} {x y z : Int32} {P : zP} {se ri ti fe ev mi : Int32} {ch co fo : Int64} {sets sin pi : Nat → Int32} {pr lw : Nat → Int64} {a : Nat → Nat} {m : Nat → Nat}
theorem r_X1_leastAfter (hN : isNights h (se, ri, ti, nI (pRe P), ch, fe, ev, mi, sets, sin, pr, lw, nI am, nI tn, co, fo, pi)) (ok : okP P) (htw : tw ≤ 60) (hT : nTab P tw sets sin pr lw) (hm : nMask m co) (ham : am < 64) (htn : tn ≤ 4) (hpi : ∀ g, g < k → pi g = nI (a g)) (hk : k ≤ 3) : zRet K l 1 mX1_leastAfter [.ref 22, .int (nI k)] 59 h (some (.long (lN (nLat m P tw am tn a k)))) h := by
  refine zRet.of (by decide) (Nat.le_of_ble_eq_true rfl) (fun Q hQ => ?_)
  obtain ⟨h1, h2, h3, h4, h5, h6⟩ := id hN
  have lp : ∀ j, j ≤ 3 - k → zGo K l 1 mX1_leastAfter 7 [(0, .ref 22), (1, .int (nI k)), (2, .long (lN (zsum (fun i => m (nLw P tw (k + 1 + i) (nOpn am tn (pRe P) a (k + 1 + i) k))) j))), (4, .int (nI (k + 1 + j)))] [] 59 h 0 0 Q := by
    refine z_down (3 - k) (fun j hj ih => ?_)
    refine kX1_leastAfter_7 ?_
    refine zb_go (zg_iload rfl) rfl ?_
    refine zb_go (zg_iconst 4 (by decide)) rfl ?_
    refine zb_br (zg_icmp_ge (tgt := 45) (by decide)) rfl (fun c0 => ?_) (fun c0 => ?_)
    · have e : j = 3 - k := by
        have := (nI_leI (a := 4) (b := k + 1 + j) (by decide) (by omega)).mp c0
        omega
      subst e
      refine kX1_leastAfter_45 ?_
      refine zb_go (zg_lload_n rfl) rfl ?_
      refine zb_end (zg_lreturn rfl ?_) rfl
      exact hQ
    · have hjk : j < 3 - k := by
        rcases Nat.lt_or_ge j (3 - k) with q | q
        · exact q
        · exact absurd (nI_le (a := 4) (b := k + 1 + j) (by omega) (by omega)) c0
      obtain ⟨L, -, -, -, -, -, -, hlw⟩ := hT (k + 1 + j) (by omega)
      have e1 : lw (64 * (k + 1 + j) + nOpn am tn (pRe P) a (k + 1 + j) k) = lN (nLw P tw (k + 1 + j) (nOpn am tn (pRe P) a (k + 1 + j) k)) := hlw _ nOpn_lt
      have b1 := nLw_le (g := k + 1 + j) (s := nOpn am tn (pRe P) a (k + 1 + j) k) ok htw
      refine zb_go (zg_lload_n rfl) rfl ?_
      refine zb_go (zg_aload_n rfl) rfl ?_
      refine zb_go (zg_getfield fX1_49 (by first | assumption | decide | omega) (by repeat (first | assumption | exact z_up_self _ _ _ | refine (z_up_ne (by first | decide | omega)).trans ?_)) (by rfl)) rfl ?_
      refine zb_go (zg_iload rfl) rfl ?_
      refine zb_go (zg_bipush 64 (by decide)) rfl ?_
      refine zb_go zg_imul rfl ?_
      refine zb_go (zg_aload_n rfl) rfl ?_
      refine zb_go (zg_iload rfl) rfl ?_
      refine zb_go (zg_iload_n rfl) rfl ?_
      refine zb_callv (r_X1_openIn hN (ok.2.2.2.2.1) ham htn hpi (by omega) (by omega) (by omega)) lX1_162 (by repeat (first | assumption | exact z_up_self _ _ _ | refine (z_up_ne (by first | decide | omega)).trans ?_)) rfl rfl (by first | assumption | decide | omega) (by first | decide | omega) rfl (Nat.le_of_ble_eq_true rfl) rfl ?_
      refine zb_go zg_iadd rfl ?_
      refine zb_go (zi_laload (by first | assumption | decide | omega) (by repeat (first | assumption | exact z_up_self _ _ _ | refine (z_up_ne (by first | decide | omega)).trans ?_)) (z_ix64 (by omega) nOpn_lt)) rfl ?_
      rw [e1]
      refine zb_go (zg_aload_n rfl) rfl ?_
      refine zb_go (zg_getfield fX1_60 (by first | assumption | decide | omega) (by repeat (first | assumption | exact z_up_self _ _ _ | refine (z_up_ne (by first | decide | omega)).trans ?_)) (by rfl)) rfl ?_
      refine zb_go zg_land rfl ?_
      rw [hm.1 _ (by omega)]
      refine zb_go zg_ladd rfl ?_
      rw [lN_add]
      refine zb_go (zg_lstore_n (by decide)) rfl ?_
      refine zb_go (zg_iinc 1 (by decide) rfl (by decide)) rfl ?_
      refine zb_end (zg_goto (tgt := 7) (by decide) ?_) rfl
      rw [nI_1]
      exact ih hjk
  refine kX1_leastAfter_0 ?_
  refine zb_go (zg_lconst 0 (by decide)) rfl ?_
  refine zb_go (zg_lstore_n (by decide)) rfl ?_
  refine zb_go (zg_iload_n rfl) rfl ?_
  refine zb_go (zg_iconst 1 (by decide)) rfl ?_
  refine zb_go zg_iadd rfl ?_
  refine zb_go (zg_istore (by decide)) rfl ?_
  refine zb_out ?_
  rw [nI_1]
  exact lp 0 (Nat.zero_le _)
end
