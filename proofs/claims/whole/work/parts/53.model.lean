/-! THE MODEL (6): begin, fits, away, bars, common -/
theorem zcnt_3u {t : Nat → Nat} {u : Nat → Bool} {n : Nat} (h : ∀ i, i < n → t i ≤ 3) : zcnt (fun i => decide (t i ≠ 0) && u i) n = zcnt (fun i => decide (t i = 0 + 1) && u i) n + zcnt (fun i => decide (t i = 1 + 1) && u i) n + zcnt (fun i => decide (t i = 2 + 1) && u i) n := by
  induction n with
  | zero => rfl
  | succ n ih =>
    have h1 := h n (by omega)
    simp only [zcnt, ih (fun i hi => h i (by omega))]
    rcases (show t n = 0 ∨ t n = 1 ∨ t n = 2 ∨ t n = 3 by omega) with q | q | q | q <;> rcases Bool.eq_false_or_eq_true (u n) with w | w <;> simp [q, w] <;> omega
theorem zcnt_oneu {p u : Nat → Bool} {n : Nat} (hu : ∀ i j, i < n → j < n → p i = true → p j = true → i = j) : zcnt (fun i => p i && u i) n = (zfst p n).elim 0 (fun r => if u r then 1 else 0) := by
  induction n with
  | zero => rfl
  | succ n ih =>
    have ih := ih (fun i j hi hj => hu i j (by omega) (by omega))
    simp only [zcnt, zfst]
    cases e : zfst p n with
    | none =>
      rw [e] at ih
      rw [ih]
      rcases Bool.eq_false_or_eq_true (p n) with z | z <;> simp [z]
    | some q =>
      rw [e] at ih
      obtain ⟨a, b, -⟩ := zfst_spec e
      have z : p n = false := by
        rcases Bool.eq_false_or_eq_true (p n) with z | z
        · have := hu q n (by omega) (by omega) b z
          omega
        · exact z
      rw [ih]; simp [z]
def fRang (T : zT) (s g b : Nat) : Bool := match zfst (fun r => decide (T.1 r g = b + 1)) 6 with
  | none => false
  | some r => !s.testBit r
theorem fRang_all {P : zP} {T : zT} {s g : Nat} (okp : okP P) (okt : okT P T) (hg : g < 4) : zcnt (fRang T s g) 3 = zpop (zdif (tIn T g) s) := by
  have e1 : zpop (zdif (tIn T g) s) = zcnt (fun r => decide (T.1 r g ≠ 0) && !s.testBit r) 6 := zcnt_congr (fun r hr => by
    show (zdif (zbits _ 6) s).testBit r = _
    rw [zdif_bit, zbits_bit, decide_eq_true hr, Bool.true_and])
  have key : ∀ b, b < 3 → (if fRang T s g b then 1 else 0) = zcnt (fun r => decide (T.1 r g = b + 1) && !s.testBit r) 6 := by
    intro b hb
    rw [zcnt_oneu (fun i j hi hj a c => by
      have a := of_decide_eq_true a
      have c := of_decide_eq_true c
      exact okt.2.1 i j g hi hj hg (by omega) (a.trans c.symm))]
    unfold fRang
    cases zfst (fun r => decide (T.1 r g = b + 1)) 6 with
    | none => rfl
    | some r => rfl
  rw [e1, zcnt_3u (fun i hi => okt.le okp hi hg), ← key 0 (by decide), ← key 1 (by decide), ← key 2 (by decide)]
  simp only [zcnt, Nat.zero_add]
def aSnd (T : zT) (s q : Nat) : Bool := decide (T.2.2 q = 0) || decide (T.2.2 q = zpop (zdif (tIn T q) s) + 1)
theorem aFit_off {T : zT} {k : Nat} (hk : tOr T < k) : aFit T k = false := by
  unfold aFit
  have : zdif k (tOr T) ≠ 0 := fun z => by
    have e := zsub_and (zdif_0.mp z)
    have : k &&& tOr T ≤ tOr T := Nat.and_le_right
    omega
  rw [decide_eq_false this, Bool.false_and]
theorem aOff {T : zT} : ∀ j, aWays T (tOr T + 1 + j) = aWays T (tOr T + 1) ∧ aSure T (tOr T + 1 + j) = aSure T (tOr T + 1) ∧ aEver T (tOr T + 1 + j) = aEver T (tOr T + 1)
  | 0 => ⟨rfl, rfl, rfl⟩
  | j + 1 => by
    obtain ⟨h1, h2, h3⟩ := aOff (T := T) j
    have h := aFit_off (T := T) (k := tOr T + 1 + j) (by omega)
    refine ⟨?_, ?_, ?_⟩
    · show aWays T (tOr T + 1 + j) + (if aFit T (tOr T + 1 + j) then 1 else 0) = _
      rw [h, h1]; rfl
    · show (if aFit T (tOr T + 1 + j) then aSure T (tOr T + 1 + j) &&& (tOr T + 1 + j) else aSure T (tOr T + 1 + j)) = _
      rw [h]; exact h2
    · show (if aFit T (tOr T + 1 + j) then aEver T (tOr T + 1 + j) ||| (tOr T + 1 + j) else aEver T (tOr T + 1 + j)) = _
      rw [h]; exact h3
theorem tOr_bits {P : zP} {T : zT} (okp : okP P) (okt : okT P T) : tOr T = zbits (fun r => decide (0 < tN T r)) (pR P) := by
  have kR := okp.2.1
  refine Nat.eq_of_testBit_eq (fun i => ?_)
  rw [tOr, zor_bit, zbits_bit]
  have e : (∃ j, j < 4 ∧ (tIn T j).testBit i = true) ↔ (i < pR P ∧ 0 < tN T i) := by
    constructor
    · rintro ⟨j, hj, h⟩
      rw [tIn, zbits_bit, Bool.and_eq_true] at h
      have h6 := of_decide_eq_true h.1
      have h0 := of_decide_eq_true h.2
      refine ⟨(okt.1 i j h6 hj h0).1, ?_⟩
      rcases Nat.eq_zero_or_pos (tN T i) with q | q
      · exfalso
        have := zcnt_upd (f := fun k => if k = j then false else decide (T.1 i k ≠ 0)) (f' := fun k => decide (T.1 i k ≠ 0)) hj (fun k hk => by rw [if_neg hk]) (if_pos rfl) (decide_eq_true h0)
        unfold tN at q
        omega
      · exact q
    · rintro ⟨hi, h⟩
      refine Classical.byContradiction fun hn => ?_
      have : tN T i ≤ zcnt (fun _ => false) 4 := zcnt_sub (fun k hk hz => by
        exfalso
        refine hn ⟨k, hk, ?_⟩
        rw [tIn, zbits_bit, decide_eq_true (by omega), Bool.true_and]
        exact hz)
      have e0 : zcnt (fun _ => false) 4 = 0 := by decide
      omega
  by_cases hq : i < pR P ∧ 0 < tN T i
  · rw [decide_eq_true (e.mpr hq), decide_eq_true hq.1, decide_eq_true hq.2]; rfl
  · rw [decide_eq_false (fun z => hq (e.mp z))]
    by_cases hi : i < pR P
    · rw [decide_eq_true hi, decide_eq_false (fun z => hq ⟨hi, z⟩)]; rfl
    · rw [decide_eq_false hi, Bool.false_and]
section
variable {K : zK} {l : Launch} {n p q r g : Nat} {h h1 : zH} {x y z : Int32} {G : zS} {P : zP} {f : Nat → Int32} {T : zT}
theorem r_X6_begin {kf f8 : Nat → Int32} (h1 : ∃ tr ty X, h 34 = mObj tr ty X) (h43 : h 43 = .inl (0, 2, .inl f8)) (h46 : h 46 = .inl (0, 51, .inl f)) (h47 : h 47 = .inl (3, 2, .inl kf)) : zRex K l 0 mX6_begin [.ref 34] 59 h (fun v h' => v = none ∧ ∃ F kf', h' = z_up (z_up h 46 (.inl (0, 51, .inl F))) 47 (.inl (3, 2, .inl kf')) ∧ (∀ j, j < 17 → j ≠ 12 → F j = -9) ∧ F 12 = f8 0 ∧ kf' 0 = 0 ∧ kf' 1 = 0) := by
  refine zRex.of (by decide) (Nat.le_of_ble_eq_true rfl) (fun Q hQ => ?_)
  obtain ⟨tr, ty, ⟨at_, st, so, va, fa, to, mo, wa, fe, ev⟩, h1⟩ := h1
  have h1 : h 34 = .inr _ := h1
  have lp : ∀ k, k ≤ 17 → ∀ F, (∀ j, j < k → F j = -9) → zGo K l 0 mX6_begin 2 [(0, .ref 34), (1, .int (nI k))] [] 59 (z_up h 46 (.inl (0, 51, .inl F))) 0 0 Q := by
    refine z_down 17 (fun k hk ih F hF => ?_)
    refine kX6_begin_2 ?_
    refine zb_go (zg_iload_n rfl) rfl ?_
    refine zb_go (zg_bipush 17 (by decide)) rfl ?_
    refine zb_br (zg_icmp_ge (tgt := 22) (by decide)) rfl (fun c => ?_) (fun c => ?_)
    · obtain rfl := z_is_le (by decide) hk c
      refine kX6_begin_22 ?_
      refine zb_go (zg_aload_n rfl) rfl ?_
      refine zb_go (zg_getfield fX6_44 (by first | decide | assumption | omega) (by repeat (first | assumption | exact z_up_self _ _ _ | refine (z_up_ne (by first | decide | omega)).trans ?_)) (by rfl)) rfl ?_
      refine zb_go (zg_bipush 12 (by decide)) rfl ?_
      refine zb_go (zg_aload_n rfl) rfl ?_
      refine zb_go (zg_getfield fX6_35 (by first | decide | assumption | omega) (by repeat (first | assumption | exact z_up_self _ _ _ | refine (z_up_ne (by first | decide | omega)).trans ?_)) (by rfl)) rfl ?_
      refine zb_go (zg_iconst 0 (by decide)) rfl ?_
      refine zb_go (zi_iaload (by first | decide | assumption | omega) (by repeat (first | assumption | exact z_up_self _ _ _ | refine (z_up_ne (by first | decide | omega)).trans ?_)) (by first | assumption | exact zIx.nI (by omega) (by decide) | exact ⟨by decide, by decide⟩ | exact zIx.nI (k := 0) (by decide) (by decide) | exact zIx.nI (k := 1) (by decide) (by decide) | exact zIx.nI (k := 2) (by decide) (by decide) | exact zIx.nI (k := 3) (by decide) (by decide))) rfl ?_
      refine zb_go (zi_iastore (by first | decide | assumption | omega) (by repeat (first | assumption | exact z_up_self _ _ _ | refine (z_up_ne (by first | decide | omega)).trans ?_)) (zIx.nI (k := 12) (by decide) (by decide))) rfl ?_
      refine zb_go (zg_aload_n rfl) rfl ?_
      refine zb_go (zg_getfield fX6_47 (by first | decide | assumption | omega) (by repeat (first | assumption | exact z_up_self _ _ _ | refine (z_up_ne (by first | decide | omega)).trans ?_)) (by rfl)) rfl ?_
      refine zb_go (zg_iconst 0 (by decide)) rfl ?_
      refine zb_go (zg_iconst 0 (by decide)) rfl ?_
      refine zb_go (zi_zastore (y := 0) (by first | decide | assumption | omega) (by repeat (first | assumption | exact z_up_self _ _ _ | refine (z_up_ne (by first | decide | omega)).trans ?_)) (by first | assumption | exact zIx.nI (by omega) (by decide) | exact ⟨by decide, by decide⟩ | exact zIx.nI (k := 0) (by decide) (by decide) | exact zIx.nI (k := 1) (by decide) (by decide) | exact zIx.nI (k := 2) (by decide) (by decide) | exact zIx.nI (k := 3) (by decide) (by decide)) (by decide)) rfl ?_
      refine zb_go (zg_aload_n rfl) rfl ?_
      refine zb_go (zg_getfield fX6_47 (by first | decide | assumption | omega) (by repeat (first | assumption | exact z_up_self _ _ _ | refine (z_up_ne (by first | decide | omega)).trans ?_)) (by rfl)) rfl ?_
      refine zb_go (zg_iconst 1 (by decide)) rfl ?_
      refine zb_go (zg_iconst 0 (by decide)) rfl ?_
      refine zb_go (zi_zastore (y := 0) (by first | decide | assumption | omega) (by repeat (first | assumption | exact z_up_self _ _ _ | refine (z_up_ne (by first | decide | omega)).trans ?_)) (by first | assumption | exact zIx.nI (by omega) (by decide) | exact ⟨by decide, by decide⟩ | exact zIx.nI (k := 0) (by decide) (by decide) | exact zIx.nI (k := 1) (by decide) (by decide) | exact zIx.nI (k := 2) (by decide) (by decide) | exact zIx.nI (k := 3) (by decide) (by decide)) (by decide)) rfl ?_
      refine zb_end (zg_return rfl ?_) rfl
      rw [z_up_up, z_up_up]
      refine hQ _ _ ⟨rfl, _, _, rfl, fun j hj hne => ?_, pk_us, ?_, pk_us⟩
      · rw [pk_un hne]; exact hF j hj
      · rw [pk_un (by decide), pk_us]
    · have hk4 := z_not_le (by decide) hk c
      refine zb_go (zg_aload_n rfl) rfl ?_
      refine zb_go (zg_getfield fX6_44 (by first | decide | assumption | omega) (by repeat (first | assumption | exact z_up_self _ _ _ | refine (z_up_ne (by first | decide | omega)).trans ?_)) (by rfl)) rfl ?_
      refine zb_go (zg_iload_n rfl) rfl ?_
      refine zb_go (zg_bipush (-9) (by decide)) rfl ?_
      refine zb_go (zi_iastore (by first | decide | assumption | omega) (by repeat (first | assumption | exact z_up_self _ _ _ | refine (z_up_ne (by first | decide | omega)).trans ?_)) (zIx.nI (by omega) (by decide))) rfl ?_
      refine zb_go (zg_iinc 1 (by decide) rfl (by decide)) rfl ?_
      refine zb_end (zg_goto (tgt := 2) (by decide) ?_) rfl
      rw [z_up_up, nI_1]
      refine ih hk4 _ (fun j hj => ?_)
      by_cases w : j = k
      · rw [w, pk_us]
      · rw [pk_un w]; exact hF j (by omega)
  refine kX6_begin_0 ?_
  refine zb_go (zg_iconst 0 (by decide)) rfl ?_
  refine zb_go (zg_istore_n (by decide)) rfl ?_
  refine zb_out ?_
  have := lp 0 (by omega) f (fun j hj => by omega)
  rw [z_up_id h46] at this
  exact this
theorem r_X6_fits {s : Nat} (hM : mCore h P f) (okp : okP P) (okt : okT P T) (hN : mNow f 0 T) (hs : s < 64) : zRet K l 0 mX6_fits [.ref 34, .int (nI s)] 59 h (some (.int (bI (zall (aSnd T s) 4)))) h := by
  refine zRet.of (by decide) (Nat.le_of_ble_eq_true rfl) (fun Q hQ => ?_)
  obtain ⟨⟨tr, ty, ⟨at_, st, so, va, fa, to, mo, wa, fe, ev⟩, h1⟩, hP, h46⟩ := id hM
  have h1 : h 34 = .inr _ := h1
  obtain ⟨⟨f1, a1, b1⟩, ⟨f2, a2, b2⟩, ⟨f3, a3, b3⟩, ⟨f4, a4, b4⟩, ⟨f5, a5, b5⟩, ⟨f6, a6, b6⟩, ⟨f7, a7, b7⟩, ⟨f8, a8⟩, ⟨f9, a9, b9⟩, ⟨f10, a10, b10⟩⟩ := id hP
  have kH := okp.1
  have kR := okp.2.1
  have lp : ∀ k, k ≤ 4 → zGo K l 0 mX6_fits 4 [(0, .ref 34), (1, .int (nI s)), (2, .int (bI (zall (aSnd T s) k))), (3, .int (nI k))] [] 59 h 0 0 Q := by
    refine z_down 4 (fun k hk ih => ?_)
    refine kX6_fits_4 ?_
    refine zb_go (zg_iload_n rfl) rfl ?_
    refine zb_go (zg_iconst 4 (by decide)) rfl ?_
    refine zb_br (zg_icmp_ge (tgt := 110) (by decide)) rfl (fun c => ?_) (fun c => ?_)
    · obtain rfl := z_is_le (by decide) hk c
      refine kX6_fits_110 ?_
      refine zb_go (zg_iload_n rfl) rfl ?_
      refine zb_end (zg_ireturn rfl bI_nar ?_) rfl
      exact hQ
    · have hk4 := z_not_le (by decide) hk c
      have ih := ih hk4
      rw [zall_succ] at ih
      have il : ∀ b, b ≤ 3 → ∀ w, zGo K l 0 mX6_fits 15 [(0, .ref 34), (1, .int (nI s)), (2, .int (bI (zall (aSnd T s) k))), (3, .int (nI k)), (4, .int (nI (zcnt (fRang T s k) b))), (5, .int (nI b)), (6, .int w)] [] 59 h 0 0 Q := by
        refine z_down 3 (fun b hb ih2 w => ?_)
        refine kX6_fits_15 ?_
        refine zb_go (zg_iload rfl) rfl ?_
        refine zb_go (zg_iconst 3 (by decide)) rfl ?_
        refine zb_br (zg_icmp_ge (tgt := 66) (by decide)) rfl (fun c => ?_) (fun c => ?_)
        · obtain rfl := z_is_le (by decide) hb c
          rw [fRang_all okp okt hk4]
          have i13 := z_ix13 hk4
          have eh := hN.heard hk4
          have kT := okt.2.2.2.2.2 k hk4
          have kz := zpop_le (zdif (tIn T k) s)
          have no : aSnd T s k = false ∨ zall (aSnd T s) k = false → zGo K l 0 mX6_fits 102 [(0, .ref 34), (1, .int (nI s)), (2, .int (bI (zall (aSnd T s) k))), (3, .int (nI k)), (4, .int (nI (zpop (zdif (tIn T k) s)))), (5, .int (nI 3)), (6, .int w)] [] 59 h 0 0 Q := by
            intro hz
            have e : (zall (aSnd T s) k && aSnd T s k) = false := by
              rcases hz with hz | hz
              · rw [hz, Bool.and_false]
              · rw [hz, Bool.false_and]
            rw [e] at ih
            refine kX6_fits_102 ?_
            refine zb_go (zg_iconst 0 (by decide)) rfl ?_
            refine zb_out ?_
            refine kX6_fits_103 ?_
            refine zb_go (zg_istore_n (by decide)) rfl ?_
            refine zb_go (zg_iinc 1 (by decide) rfl (by decide)) rfl ?_
            refine zb_end (zg_goto (tgt := 4) (by decide) ?_) rfl
            refine zg_keep [0, 1, 2, 3] ?_
            first | exact ih | (rw [nI_1]; exact ih) | (rw [nI_1, nI_1]; exact ih) | (rw [nI_1, nI_1, nI_1]; exact ih)
          have yes : aSnd T s k = true → zall (aSnd T s) k = true → zGo K l 0 mX6_fits 98 [(0, .ref 34), (1, .int (nI s)), (2, .int (bI (zall (aSnd T s) k))), (3, .int (nI k)), (4, .int (nI (zpop (zdif (tIn T k) s)))), (5, .int (nI 3)), (6, .int w)] [] 59 h 0 0 Q := by
            intro hz1 hz2
            rw [hz1, hz2] at ih
            refine kX6_fits_98 ?_
            refine zb_go (zg_iconst 1 (by decide)) rfl ?_
            refine zb_end (zg_goto (tgt := 103) (by decide) ?_) rfl
            refine kX6_fits_103 ?_
            refine zb_go (zg_istore_n (by decide)) rfl ?_
            refine zb_go (zg_iinc 1 (by decide) rfl (by decide)) rfl ?_
            refine zb_end (zg_goto (tgt := 4) (by decide) ?_) rfl
            refine zg_keep [0, 1, 2, 3] ?_
            first | exact ih | (rw [nI_1]; exact ih) | (rw [nI_1, nI_1]; exact ih) | (rw [nI_1, nI_1, nI_1]; exact ih)
          refine kX6_fits_66 ?_
          refine zb_go (zg_iload_n rfl) rfl ?_
          refine zb_br (zg_if_eq (tgt := 102) (by decide)) rfl (fun c0 => ?_) (fun c0 => ?_)
          · exact no (Or.inr (bI_0.mp c0))
          · have c0 := bI_n.mp c0
            refine zb_go (zg_aload_n rfl) rfl ?_
            refine zb_go (zg_getfield fX6_44 (by first | decide | assumption | omega) (by repeat (first | assumption | exact z_up_self _ _ _ | refine (z_up_ne (by first | decide | omega)).trans ?_)) (by rfl)) rfl ?_
            refine zb_go (zg_bipush 13 (by decide)) rfl ?_
            refine zb_go (zg_iload_n rfl) rfl ?_
            refine zb_go zg_iadd rfl ?_
            refine zb_go (zi_iaload (by first | decide | assumption | omega) (by repeat (first | assumption | exact z_up_self _ _ _ | refine (z_up_ne (by first | decide | omega)).trans ?_)) i13) rfl ?_
            refine zb_go (zg_bipush (-9) (by decide)) rfl ?_
            refine zb_br (zg_icmp_eq (tgt := 98) (by decide)) rfl (fun c1 => ?_) (fun c1 => ?_)
            · rw [eh, heardI] at c1
              have h0 : T.2.2 k = 0 := by
                by_cases q : T.2.2 k = 0
                · exact q
                · rw [if_neg q] at c1; exact absurd c1 (nI_ne9 (by omega))
              exact yes (by rw [aSnd, decide_eq_true h0, Bool.true_or]) c0
            · rw [eh, heardI] at c1
              have h0 : T.2.2 k ≠ 0 := fun q => by rw [if_pos q] at c1; exact c1 rfl
              refine zb_go (zg_aload_n rfl) rfl ?_
              refine zb_go (zg_getfield fX6_44 (by first | decide | assumption | omega) (by repeat (first | assumption | exact z_up_self _ _ _ | refine (z_up_ne (by first | decide | omega)).trans ?_)) (by rfl)) rfl ?_
              refine zb_go (zg_bipush 13 (by decide)) rfl ?_
              refine zb_go (zg_iload_n rfl) rfl ?_
              refine zb_go zg_iadd rfl ?_
              refine zb_go (zi_iaload (by first | decide | assumption | omega) (by repeat (first | assumption | exact z_up_self _ _ _ | refine (z_up_ne (by first | decide | omega)).trans ?_)) i13) rfl ?_
              refine zb_go (zg_iload rfl) rfl ?_
              refine zb_br (zg_icmp_ne (tgt := 102) (by decide)) rfl (fun c2 => ?_) (fun c2 => ?_)
              · rw [eh, heardI, if_neg h0] at c2
                refine no (Or.inl ?_)
                rw [aSnd, decide_eq_false h0, Bool.false_or]
                exact decide_eq_false (fun q => c2 (by rw [q, Nat.add_sub_cancel]))
              · rw [eh, heardI, if_neg h0] at c2
                have c2 := (nI_eq (by omega) (by omega)).mp c2
                refine zb_out ?_
                refine yes ?_ c0
                rw [aSnd, decide_eq_true (show T.2.2 k = zpop (zdif (tIn T k) s) + 1 by omega), Bool.or_true]
        · have hb3 := z_not_le (by decide) hb c
          have ih2 := ih2 hb3
          have eb := hN.at hk4 hb3
          have eR : zcnt (fRang T s k) (b + 1) = zcnt (fRang T s k) b + (if fRang T s k b then 1 else 0) := rfl
          refine zb_go (zg_aload_n rfl) rfl ?_
          refine zb_go (zg_getfield fX6_44 (by first | decide | assumption | omega) (by repeat (first | assumption | exact z_up_self _ _ _ | refine (z_up_ne (by first | decide | omega)).trans ?_)) (by rfl)) rfl ?_
          refine zb_go (zg_iconst 3 (by decide)) rfl ?_
          refine zb_go (zg_iload_n rfl) rfl ?_
          refine zb_go zg_imul rfl ?_
          refine zb_go (zg_iload rfl) rfl ?_
          refine zb_go zg_iadd rfl ?_
          refine zb_go (zi_iaload (by first | decide | assumption | omega) (by repeat (first | assumption | exact z_up_self _ _ _ | refine (z_up_ne (by first | decide | omega)).trans ?_)) (z_ix3 hk4 hb3)) rfl ?_
          cases e : zfst (fun r => decide (T.1 r k = b + 1)) 6 with
          | none =>
            rw [eb, e]
            have e2 : fRang T s k b = false := by rw [fRang, e]
            rw [eR, e2] at ih2
            refine zb_go (zg_istore (by decide)) rfl ?_
            refine zb_go (zg_iload rfl) rfl ?_
            refine zb_go (zg_iload rfl) rfl ?_
            refine zb_go (zg_bipush (-9) (by decide)) rfl ?_
            refine zb_br (zg_icmp_eq (tgt := 56) (by decide)) rfl (fun c1 => ?_) (fun c1 => ?_)
            · refine kX6_fits_56 ?_
              refine zb_go (zg_iconst 0 (by decide)) rfl ?_
              refine zb_out ?_
              refine kX6_fits_57 ?_
              refine zb_go zg_iadd rfl ?_
              refine zb_go (zg_istore (by decide)) rfl ?_
              refine zb_go (zg_iinc 1 (by decide) rfl (by decide)) rfl ?_
              refine zb_end (zg_goto (tgt := 15) (by decide) ?_) rfl
              have := ih2 (oI none)
              simp only [Bool.false_eq_true, if_false, Nat.add_zero] at this
              rw [Int32.add_zero, nI_1]
              exact this
            · exact absurd rfl c1
          | some r =>
            rw [eb, e]
            obtain ⟨hr6, -, -⟩ := zfst_spec e
            have e2 : fRang T s k b = !s.testBit r := by rw [fRang, e]
            rw [eR, e2] at ih2
            refine zb_go (zg_istore (by decide)) rfl ?_
            refine zb_go (zg_iload rfl) rfl ?_
            refine zb_go (zg_iload rfl) rfl ?_
            refine zb_go (zg_bipush (-9) (by decide)) rfl ?_
            refine zb_br (zg_icmp_eq (tgt := 56) (by decide)) rfl (fun c1 => ?_) (fun c1 => ?_)
            · exact absurd c1 (nI_ne9 (by omega))
            · refine zb_go (zg_iload_n rfl) rfl ?_
              refine zb_go (zg_iload rfl) rfl ?_
              refine zb_go zg_ishr rfl ?_
              refine zb_go (zg_iconst 1 (by decide)) rfl ?_
              refine zb_go zg_iand rfl ?_
              rw [show oI (some r) = nI r from rfl, z_bit (by omega) (by omega)]
              refine zb_br (zg_if_ne (tgt := 56) (by decide)) rfl (fun c2 => ?_) (fun c2 => ?_)
              · have c2 : s.testBit r = true := by
                  rcases Bool.eq_false_or_eq_true (s.testBit r) with q | q
                  · exact q
                  · rw [q] at c2; exact absurd rfl c2
                rw [c2] at ih2
                refine kX6_fits_56 ?_
                refine zb_go (zg_iconst 0 (by decide)) rfl ?_
                refine zb_out ?_
                refine kX6_fits_57 ?_
                refine zb_go zg_iadd rfl ?_
                refine zb_go (zg_istore (by decide)) rfl ?_
                refine zb_go (zg_iinc 1 (by decide) rfl (by decide)) rfl ?_
                refine zb_end (zg_goto (tgt := 15) (by decide) ?_) rfl
                have := ih2 (nI r)
                simp only [Bool.not_true, Bool.false_eq_true, if_false, Nat.add_zero] at this
                rw [Int32.add_zero, nI_1]
                exact this
              · have c2 : s.testBit r = false := by
                  rcases Bool.eq_false_or_eq_true (s.testBit r) with q | q
                  · rw [q] at c2; exact absurd c2 (by decide)
                  · exact q
                rw [c2] at ih2
                refine zb_go (zg_iconst 1 (by decide)) rfl ?_
                refine zb_end (zg_goto (tgt := 57) (by decide) ?_) rfl
                refine kX6_fits_57 ?_
                refine zb_go zg_iadd rfl ?_
                refine zb_go (zg_istore (by decide)) rfl ?_
                refine zb_go (zg_iinc 1 (by decide) rfl (by decide)) rfl ?_
                refine zb_end (zg_goto (tgt := 15) (by decide) ?_) rfl
                have := ih2 (nI r)
                simp only [Bool.not_false, if_true] at this
                rw [nI_1, nI_1]
                exact this
      have i2 : zGo K l 0 mX6_fits 15 [(0, .ref 34), (1, .int (nI s)), (2, .int (bI (zall (aSnd T s) k))), (3, .int (nI k)), (4, .int (nI (zcnt (fRang T s k) 0))), (5, .int (nI 0))] [] 59 h 0 0 Q := by
        refine kX6_fits_15 ?_
        refine zb_go (zg_iload rfl) rfl ?_
        refine zb_go (zg_iconst 3 (by decide)) rfl ?_
        refine zb_br (zg_icmp_ge (tgt := 66) (by decide)) rfl (fun c => ?_) (fun c => ?_)
        · exact absurd c (by decide)
        · have ih2 := il 1 (by decide)
          have eb := hN.at hk4 (b := 0) (by decide)
          have eR : zcnt (fRang T s k) 1 = (if fRang T s k 0 then 1 else 0) := Nat.zero_add _
          refine zb_go (zg_aload_n rfl) rfl ?_
          refine zb_go (zg_getfield fX6_44 (by first | decide | assumption | omega) (by repeat (first | assumption | exact z_up_self _ _ _ | refine (z_up_ne (by first | decide | omega)).trans ?_)) (by rfl)) rfl ?_
          refine zb_go (zg_iconst 3 (by decide)) rfl ?_
          refine zb_go (zg_iload_n rfl) rfl ?_
          refine zb_go zg_imul rfl ?_
          refine zb_go (zg_iload rfl) rfl ?_
          refine zb_go zg_iadd rfl ?_
          refine zb_go (zi_iaload (by first | decide | assumption | omega) (by repeat (first | assumption | exact z_up_self _ _ _ | refine (z_up_ne (by first | decide | omega)).trans ?_)) (z_ix3 (b := 0) hk4 (by decide))) rfl ?_
          cases e : zfst (fun r => decide (T.1 r k = 0 + 1)) 6 with
          | none =>
            rw [eb, e]
            have e2 : fRang T s k 0 = false := by rw [fRang, e]
            rw [eR, e2] at ih2
            refine zb_go (zg_istore (by decide)) rfl ?_
            refine zb_go (zg_iload rfl) rfl ?_
            refine zb_go (zg_iload rfl) rfl ?_
            refine zb_go (zg_bipush (-9) (by decide)) rfl ?_
            refine zb_br (zg_icmp_eq (tgt := 56) (by decide)) rfl (fun c1 => ?_) (fun c1 => ?_)
            · refine kX6_fits_56 ?_
              refine zb_go (zg_iconst 0 (by decide)) rfl ?_
              refine zb_out ?_
              refine kX6_fits_57 ?_
              refine zb_go zg_iadd rfl ?_
              refine zb_go (zg_istore (by decide)) rfl ?_
              refine zb_go (zg_iinc 1 (by decide) rfl (by decide)) rfl ?_
              refine zb_end (zg_goto (tgt := 15) (by decide) ?_) rfl
              exact ih2 (oI none)
            · exact absurd rfl c1
          | some r =>
            rw [eb, e]
            obtain ⟨hr6, -, -⟩ := zfst_spec e
            have e2 : fRang T s k 0 = !s.testBit r := by rw [fRang, e]
            rw [eR, e2] at ih2
            refine zb_go (zg_istore (by decide)) rfl ?_
            refine zb_go (zg_iload rfl) rfl ?_
            refine zb_go (zg_iload rfl) rfl ?_
            refine zb_go (zg_bipush (-9) (by decide)) rfl ?_
            refine zb_br (zg_icmp_eq (tgt := 56) (by decide)) rfl (fun c1 => ?_) (fun c1 => ?_)
            · exact absurd c1 (nI_ne9 (by omega))
            · refine zb_go (zg_iload_n rfl) rfl ?_
              refine zb_go (zg_iload rfl) rfl ?_
              refine zb_go zg_ishr rfl ?_
              refine zb_go (zg_iconst 1 (by decide)) rfl ?_
              refine zb_go zg_iand rfl ?_
              rw [show oI (some r) = nI r from rfl, z_bit (by omega) (by omega)]
              refine zb_br (zg_if_ne (tgt := 56) (by decide)) rfl (fun c2 => ?_) (fun c2 => ?_)
              · have c2 : s.testBit r = true := by
                  rcases Bool.eq_false_or_eq_true (s.testBit r) with q | q
                  · exact q
                  · rw [q] at c2; exact absurd rfl c2
                rw [c2] at ih2
                refine kX6_fits_56 ?_
                refine zb_go (zg_iconst 0 (by decide)) rfl ?_
                refine zb_out ?_
                refine kX6_fits_57 ?_
                refine zb_go zg_iadd rfl ?_
                refine zb_go (zg_istore (by decide)) rfl ?_
                refine zb_go (zg_iinc 1 (by decide) rfl (by decide)) rfl ?_
                refine zb_end (zg_goto (tgt := 15) (by decide) ?_) rfl
                exact ih2 (nI r)
              · have c2 : s.testBit r = false := by
                  rcases Bool.eq_false_or_eq_true (s.testBit r) with q | q
                  · rw [q] at c2; exact absurd c2 (by decide)
                  · exact q
                rw [c2] at ih2
                refine zb_go (zg_iconst 1 (by decide)) rfl ?_
                refine zb_end (zg_goto (tgt := 57) (by decide) ?_) rfl
                refine kX6_fits_57 ?_
                refine zb_go zg_iadd rfl ?_
                refine zb_go (zg_istore (by decide)) rfl ?_
                refine zb_go (zg_iinc 1 (by decide) rfl (by decide)) rfl ?_
                refine zb_end (zg_goto (tgt := 15) (by decide) ?_) rfl
                exact ih2 (nI r)
      refine zb_go (zg_iconst 0 (by decide)) rfl ?_
      refine zb_go (zg_istore (by decide)) rfl ?_
      refine zb_go (zg_iconst 0 (by decide)) rfl ?_
      refine zb_go (zg_istore (by decide)) rfl ?_
      refine zb_out ?_
      exact i2
  refine kX6_fits_0 ?_
  refine zb_go (zg_iconst 1 (by decide)) rfl ?_
  refine zb_go (zg_istore_n (by decide)) rfl ?_
  refine zb_go (zg_iconst 0 (by decide)) rfl ?_
  refine zb_go (zg_istore_n (by decide)) rfl ?_
  refine zb_out ?_
  exact lp 0 (by omega)
theorem r_X6_away (hM : mRel h G) (ok : okS G) : zRet K l 2 mX6_away [.ref 34, .int x] 59 h (some (.int (sAway G x))) h := by
  refine zRet.of (by decide) (Nat.le_of_ble_eq_true rfl) (fun Q hQ => ?_)
  obtain ⟨⟨at_, st, so, va, fa, to, mo, wa, fe, ev⟩, f, kf, h1, ⟨tx, hx, htx⟩, hP, h46, hN, h47, hkf, hI, hRm⟩ := id hM
  have hc : mCore h (gP G) f := ⟨⟨_, _, _, h1⟩, hP, h46⟩
  have h1 : h 34 = .inr _ := h1
  obtain ⟨⟨f1, a1, b1⟩, ⟨f2, a2, b2⟩, ⟨f3, a3, b3⟩, ⟨f4, a4, b4⟩, ⟨f5, a5, b5⟩, ⟨f6, a6, b6⟩, ⟨f7, a7, b7⟩, ⟨f8, a8⟩, ⟨f9, a9, b9⟩, ⟨f10, a10, b10⟩⟩ := id hP
  have okp := ok.1
  have okt := ok.2.1
  have kH := okp.1
  have kR := okp.2.1
  unfold sAway at hQ
  have kO := tOr_lt (gT G)
  by_cases hx : 0 ≤ x ∧ x ≤ 2
  · rw [zite_t hx] at hQ
    have off := aOff (T := gT G) (63 - tOr (gT G))
    rw [show tOr (gT G) + 1 + (63 - tOr (gT G)) = 64 by omega] at off
    have fin : zGo K l 2 mX6_away 107 [(0, .ref 34), (1, .int x), (2, .int (nI (tOr (gT G)))), (3, .int (nI (aWays (gT G) (tOr (gT G) + 1)))), (4, .int (nI (aSure (gT G) (tOr (gT G) + 1)))), (5, .int (nI (aEver (gT G) (tOr (gT G) + 1)))), (6, .int (nI (tOr (gT G) + 1)))] [] 59 h 0 0 Q := by
      rw [← off.1, ← off.2.1, ← off.2.2]
      have kW : aWays (gT G) 64 ≤ 64 := zcnt_le _ _
      refine kX6_away_107 ?_
      refine zb_go (zg_iload_n rfl) rfl ?_
      refine zb_br (zg_if_ne (tgt := 115) (by decide)) rfl (fun c0 => ?_) (fun c0 => ?_)
      · rw [if_neg c0] at hQ
        refine kX6_away_115 ?_
        refine zb_go (zg_iload_n rfl) rfl ?_
        refine zb_go (zg_iconst 1 (by decide)) rfl ?_
        refine zb_br (zg_icmp_ne (tgt := 133) (by decide)) rfl (fun c1 => ?_) (fun c1 => ?_)
        · rw [if_neg c1] at hQ
          refine kX6_away_133 ?_
          refine zb_go (zg_iload_n rfl) rfl ?_
          refine zb_go (zg_iload rfl) rfl ?_
          refine zb_go (zg_iconst (-1) (by decide)) rfl ?_
          refine zb_go zg_ixor rfl ?_
          refine zb_go zg_iand rfl ?_
          rw [z_andn]
          refine zb_out ?_
          refine kX6_away_139 ?_
          refine zb_end (zg_ireturn rfl (by rfl) ?_) rfl
          exact hQ
        · rw [if_pos c1] at hQ
          refine zb_go (zg_iload_n rfl) rfl ?_
          refine zb_br (zg_if_ne (tgt := 128) (by decide)) rfl (fun c2 => ?_) (fun c2 => ?_)
          · have c2 : aWays (gT G) 64 ≠ 0 := fun w => c2 (by rw [w]; rfl)
            rw [if_neg c2] at hQ
            refine kX6_away_128 ?_
            refine zb_go (zg_iload rfl) rfl ?_
            refine zb_end (zg_goto (tgt := 139) (by decide) ?_) rfl
            refine kX6_away_139 ?_
            refine zb_end (zg_ireturn rfl (by rfl) ?_) rfl
            exact hQ
          · have c2 : aWays (gT G) 64 = 0 := (nI_eq (b := 0) (by omega) (by decide)).mp c2
            rw [if_pos c2] at hQ
            refine zb_go (zg_iconst 0 (by decide)) rfl ?_
            refine zb_end (zg_goto (tgt := 139) (by decide) ?_) rfl
            refine kX6_away_139 ?_
            refine zb_end (zg_ireturn rfl (by rfl) ?_) rfl
            exact hQ
      · rw [if_pos c0] at hQ
        refine zb_go (zg_iload_n rfl) rfl ?_
        refine zb_end (zg_goto (tgt := 139) (by decide) ?_) rfl
        refine kX6_away_139 ?_
        refine zb_end (zg_ireturn rfl (by rfl) ?_) rfl
        exact hQ
    have lp2 : ∀ k, k ≤ tOr (gT G) + 1 → zGo K l 2 mX6_away 60 [(0, .ref 34), (1, .int x), (2, .int (nI (tOr (gT G)))), (3, .int (nI (aWays (gT G) k))), (4, .int (nI (aSure (gT G) k))), (5, .int (nI (aEver (gT G) k))), (6, .int (nI k))] [] 59 h 0 0 Q := by
      refine z_down (tOr (gT G) + 1) (fun k hk ih => ?_)
      refine kX6_away_60 ?_
      refine zb_go (zg_iload rfl) rfl ?_
      refine zb_go (zg_iload_n rfl) rfl ?_
      refine zb_br (zg_icmp_gt (tgt := 107) (by decide)) rfl (fun c => ?_) (fun c => ?_)
      · have c := (nI_ltI (by omega) (by omega)).mp c
        rw [show k = tOr (gT G) + 1 by omega]
        exact fin
      · have c : k ≤ tOr (gT G) := by
          rcases Nat.lt_or_ge (tOr (gT G)) k with w | w
          · exact absurd (nI_lt w (by omega)) c
          · exact w
        have ih := ih (by omega)
        have e1 : aWays (gT G) (k + 1) = aWays (gT G) k + (if aFit (gT G) k then 1 else 0) := rfl
        have e2 : aSure (gT G) (k + 1) = if aFit (gT G) k then aSure (gT G) k &&& k else aSure (gT G) k := rfl
        have e3 : aEver (gT G) (k + 1) = if aFit (gT G) k then aEver (gT G) k ||| k else aEver (gT G) k := rfl
        rw [e1, e2, e3] at ih
        have no : aFit (gT G) k = false → zGo K l 2 mX6_away 101 [(0, .ref 34), (1, .int x), (2, .int (nI (tOr (gT G)))), (3, .int (nI (aWays (gT G) k))), (4, .int (nI (aSure (gT G) k))), (5, .int (nI (aEver (gT G) k))), (6, .int (nI k))] [] 59 h 0 0 Q := by
          intro hz
          rw [hz] at ih
          simp only [Bool.false_eq_true, if_false, Nat.add_zero] at ih
          refine kX6_away_101 ?_
          refine zb_go (zg_iinc 1 (by decide) rfl (by decide)) rfl ?_
          refine zb_end (zg_goto (tgt := 60) (by decide) ?_) rfl
          rw [nI_1]
          exact ih
        refine zb_go (zg_iload rfl) rfl ?_
        refine zb_go (zg_iload_n rfl) rfl ?_
        refine zb_go (zg_iconst (-1) (by decide)) rfl ?_
        refine zb_go zg_ixor rfl ?_
        refine zb_go zg_iand rfl ?_
        rw [z_andn]
        refine zb_br (zg_if_ne (tgt := 101) (by decide)) rfl (fun c1 => ?_) (fun c1 => ?_)
        · have c1 : zdif k (tOr (gT G)) ≠ 0 := fun w => c1 (by rw [w]; rfl)
          exact no (by rw [aFit, decide_eq_false c1, Bool.false_and])
        · have kd : zdif k (tOr (gT G)) < 64 := zdif_lt (by omega)
          have c1 : zdif k (tOr (gT G)) = 0 := (nI_eq (b := 0) (by omega) (by decide)).mp c1
          have eF : aFit (gT G) k = zall (aSnd (gT G) k) 4 := by rw [aFit, decide_eq_true c1, Bool.true_and]; rfl
          refine zb_go (zg_aload_n rfl) rfl ?_
          refine zb_go (zg_iload rfl) rfl ?_
          refine zb_callv (r_X6_fits hc okp okt hN (by omega)) lX6_230 (by repeat (first | assumption | exact z_up_self _ _ _ | refine (z_up_ne (by first | decide | omega)).trans ?_)) rfl rfl (by first | decide | assumption | omega) (by first | decide | omega) rfl (Nat.le_of_ble_eq_true rfl) rfl ?_
          refine zb_br (zg_if_eq (tgt := 101) (by decide)) rfl (fun c2 => ?_) (fun c2 => ?_)
          · exact no (eF.trans (bI_0.mp c2))
          · have c2 := eF.trans (bI_n.mp c2)
            rw [c2] at ih
            simp only [if_true] at ih
            refine zb_go (zg_iinc 1 (by decide) rfl (by decide)) rfl ?_
            refine zb_go (zg_iload rfl) rfl ?_
            refine zb_go (zg_iload rfl) rfl ?_
            refine zb_go zg_iand rfl ?_
            refine zb_go (zg_istore (by decide)) rfl ?_
            refine zb_go (zg_iload rfl) rfl ?_
            refine zb_go (zg_iload rfl) rfl ?_
            refine zb_go zg_ior rfl ?_
            refine zb_go (zg_istore (by decide)) rfl ?_
            refine zb_out ?_
            refine kX6_away_101 ?_
            refine zb_go (zg_iinc 1 (by decide) rfl (by decide)) rfl ?_
            refine zb_end (zg_goto (tgt := 60) (by decide) ?_) rfl
            rw [nI_1, nI_1, z_and, z_or]
            exact ih
    have eO := tOr_bits okp okt
    have lp1 : ∀ k, k ≤ pR (gP G) → zGo K l 2 mX6_away 15 [(0, .ref 34), (1, .int x), (2, .int (nI (zbits (fun r => decide (0 < tN (gT G) r)) k))), (3, .int (nI k))] [] 59 h 0 0 Q := by
      refine z_down (pR (gP G)) (fun k hk ih => ?_)
      refine kX6_away_15 ?_
      refine zb_go (zg_iload_n rfl) rfl ?_
      refine zb_go (zg_aload_n rfl) rfl ?_
      refine zb_go (zg_getfield fX6_20 (by first | decide | assumption | omega) (by repeat (first | assumption | exact z_up_self _ _ _ | refine (z_up_ne (by first | decide | omega)).trans ?_)) (by rfl)) rfl ?_
      refine zb_go (zg_iconst 0 (by decide)) rfl ?_
      refine zb_go (zi_iaload (by first | decide | assumption | omega) (by repeat (first | assumption | exact z_up_self _ _ _ | refine (z_up_ne (by first | decide | omega)).trans ?_)) (by first | assumption | exact zIx.nI (by omega) (by decide) | exact ⟨by decide, by decide⟩ | exact zIx.nI (k := 0) (by decide) (by decide) | exact zIx.nI (k := 1) (by decide) (by decide) | exact zIx.nI (k := 2) (by decide) (by decide) | exact zIx.nI (k := 3) (by decide) (by decide))) rfl ?_
      rw [b3]
      refine zb_br (zg_icmp_ge (tgt := 49) (by decide)) rfl (fun c => ?_) (fun c => ?_)
      · obtain rfl := z_is_le (by omega) hk c
        rw [← eO]
        refine kX6_away_49 ?_
        refine zb_go (zg_iconst 0 (by decide)) rfl ?_
        refine zb_go (zg_istore_n (by decide)) rfl ?_
        refine zb_go (zg_iload_n rfl) rfl ?_
        refine zb_go (zg_istore (by decide)) rfl ?_
        refine zb_go (zg_iconst 0 (by decide)) rfl ?_
        refine zb_go (zg_istore (by decide)) rfl ?_
        refine zb_go (zg_iconst 0 (by decide)) rfl ?_
        refine zb_go (zg_istore (by decide)) rfl ?_
        refine zb_out ?_
        exact lp2 0 (by omega)
      · have hk4 := z_not_le (by omega) hk c
        have ih := ih hk4
        have e1 : zbits (fun r => decide (0 < tN (gT G) r)) (k + 1) = zbits (fun r => decide (0 < tN (gT G) r)) k ||| (if decide (0 < tN (gT G) k) = true then 1 <<< k else 0) := rfl
        rw [e1] at ih
        have kN := tN_le (gT G) k
        refine zb_go (zg_iload_n rfl) rfl ?_
        refine zb_go (zg_aload_n rfl) rfl ?_
        refine zb_go (zg_iload_n rfl) rfl ?_
        refine zb_callv (r_X6_timesOf hc okp) lX6_147 (by repeat (first | assumption | exact z_up_self _ _ _ | refine (z_up_ne (by first | decide | omega)).trans ?_)) rfl rfl (by first | decide | assumption | omega) (by first | decide | omega) rfl (Nat.le_of_ble_eq_true rfl) rfl ?_
        rw [hN.tm okp okt (by omega)]
        refine zb_br (zg_if_le (tgt := 40) (by decide)) rfl (fun c1 => ?_) (fun c1 => ?_)
        · have c1 : tN (gT G) k = 0 := by
            have := (nI_leI (b := 0) (by omega) (by decide)).mp c1
            omega
          rw [c1] at ih
          refine kX6_away_40 ?_
          refine zb_go (zg_iconst 0 (by decide)) rfl ?_
          refine zb_out ?_
          refine kX6_away_41 ?_
          refine zb_go zg_ior rfl ?_
          refine zb_go (zg_istore_n (by decide)) rfl ?_
          refine zb_go (zg_iinc 1 (by decide) rfl (by decide)) rfl ?_
          refine zb_end (zg_goto (tgt := 15) (by decide) ?_) rfl
          rw [show (0 : Int32) = nI 0 from rfl, z_or, nI_1]
          exact ih
        · have c1 : 0 < tN (gT G) k := by
            rcases Nat.eq_zero_or_pos (tN (gT G) k) with w | w
            · exact absurd (by rw [w]; decide) c1
            · exact w
          rw [decide_eq_true c1] at ih
          refine zb_go (zg_iconst 1 (by decide)) rfl ?_
          refine zb_go (zg_iload_n rfl) rfl ?_
          refine zb_go zg_ishl rfl ?_
          refine zb_end (zg_goto (tgt := 41) (by decide) ?_) rfl
          refine kX6_away_41 ?_
          refine zb_go zg_ior rfl ?_
          refine zb_go (zg_istore_n (by decide)) rfl ?_
          refine zb_go (zg_iinc 1 (by decide) rfl (by decide)) rfl ?_
          refine zb_end (zg_goto (tgt := 15) (by decide) ?_) rfl
          rw [show (1 : Int32) <<< (nI k &&& 31) = nI (1 <<< k) from z_shl (a := 1) (by omega), z_or, nI_1]
          exact ih
    refine kX6_away_0 ?_
    refine zb_go (zg_iload_n rfl) rfl ?_
    refine zb_go (zg_iconst 0 (by decide)) rfl ?_
    refine zb_go (zg_iconst 2 (by decide)) rfl ?_
    refine zb_calls (r_X6_inT hx) lX6_87 rfl (by first | decide | omega) rfl (Nat.le_of_ble_eq_true rfl) rfl ?_
    refine zb_br (zg_if_ne (tgt := 11) (by decide)) rfl (fun c0 => ?_) (fun c0 => ?_)
    · refine kX6_away_11 ?_
      refine zb_go (zg_iconst 0 (by decide)) rfl ?_
      refine zb_go (zg_istore_n (by decide)) rfl ?_
      refine zb_go (zg_iconst 0 (by decide)) rfl ?_
      refine zb_go (zg_istore_n (by decide)) rfl ?_
      refine zb_out ?_
      exact lp1 0 (by omega)
    · exact absurd c0 (by decide)
  · rw [zite_f hx] at hQ
    refine kX6_away_0 ?_
    refine zb_go (zg_iload_n rfl) rfl ?_
    refine zb_go (zg_iconst 0 (by decide)) rfl ?_
    refine zb_go (zg_iconst 2 (by decide)) rfl ?_
    refine zb_calls (r_X6_inF hx) lX6_87 rfl (by first | decide | omega) rfl (Nat.le_of_ble_eq_true rfl) rfl ?_
    refine zb_br (zg_if_ne (tgt := 11) (by decide)) rfl (fun c0 => ?_) (fun c0 => ?_)
    · exact absurd rfl c0
    · refine zb_go (zg_iconst (-1) (by decide)) rfl ?_
      refine zb_end (zg_ireturn rfl (by rfl) ?_) rfl
      exact hQ
end
