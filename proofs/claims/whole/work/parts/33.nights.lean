/-! NIGHTS (4): openIn, leastAfter -/
def zo1 (a : Nat → Nat) : Nat → Nat
  | 0 => 0
  | j + 1 => zo1 a j ||| a j
def zo2 (a : Nat → Nat) : Nat → Nat
  | 0 => 0
  | j + 1 => zo2 a j ||| (zo1 a j &&& a j)
def zo3 (a : Nat → Nat) : Nat → Nat
  | 0 => 0
  | j + 1 => zo3 a j ||| (zo2 a j &&& a j)
def zrs (re : Nat) (a : Nat → Nat) (k : Nat) : Nat → Nat
  | 0 => 0
  | j + 1 => if k - j ≤ re then zrs re a k j ||| a j else zrs re a k j
theorem zo1_bit (a : Nat → Nat) (i j : Nat) : (zo1 a j).testBit i = decide (1 ≤ zcnt (fun g => (a g).testBit i) j) := by
  induction j with
  | zero => simp [zo1, zcnt]
  | succ j ih =>
    rw [zo1, Nat.testBit_or, ih, zcnt, Bool.eq_iff_iff]
    cases (a j).testBit i <;> simp
theorem zo2_bit (a : Nat → Nat) (i j : Nat) : (zo2 a j).testBit i = decide (2 ≤ zcnt (fun g => (a g).testBit i) j) := by
  induction j with
  | zero => simp [zo2, zcnt]
  | succ j ih =>
    rw [zo2, Nat.testBit_or, Nat.testBit_and, ih, zo1_bit, zcnt, Bool.eq_iff_iff]
    cases (a j).testBit i <;> simp <;> omega
theorem zo3_bit (a : Nat → Nat) (i j : Nat) : (zo3 a j).testBit i = decide (3 ≤ zcnt (fun g => (a g).testBit i) j) := by
  induction j with
  | zero => simp [zo3, zcnt]
  | succ j ih =>
    rw [zo3, Nat.testBit_or, Nat.testBit_and, ih, zo2_bit, zcnt, Bool.eq_iff_iff]
    cases (a j).testBit i <;> simp <;> omega
theorem zrs_bit (re : Nat) (a : Nat → Nat) (k i j : Nat) : (zrs re a k j).testBit i = !zall (fun g => decide (re < k - g) || !(a g).testBit i) j := by
  induction j with
  | zero => simp [zrs, zall]
  | succ j ih =>
    rw [zrs, zall]
    by_cases q : k - j ≤ re
    · rw [if_pos q, Nat.testBit_or, ih, decide_eq_false (by omega)]
      cases (a j).testBit i <;> cases zall (fun g => decide (re < k - g) || !(a g).testBit i) j <;> rfl
    · rw [if_neg q, ih, decide_eq_true (by omega)]
      cases zall (fun g => decide (re < k - g) || !(a g).testBit i) j <;> rfl
/-- who may still ring, as the program counts it -/
theorem nOpn_eq {am tn re k f : Nat} {a : Nat → Nat} (ham : am < 64) {o : Nat} (ho : ∀ i, o.testBit i = decide (tn ≤ zcnt (fun g => (a g).testBit i) f)) : zdif am (zrs re a k f ||| o) = nOpn am tn re a k f := by
  apply Nat.eq_of_testBit_eq
  intro i
  rw [zdif_bit, Nat.testBit_or, zrs_bit, ho, nOpn_bit]
  by_cases hi : i < 6
  · rw [decide_eq_true hi, Bool.true_and]
    by_cases q : tn ≤ zcnt (fun g => (a g).testBit i) f
    · rw [decide_eq_true q, decide_eq_false (by omega)]
      cases am.testBit i <;> simp
    · rw [decide_eq_false q, decide_eq_true (by omega)]
      cases am.testBit i <;> simp
  · rw [Nat.testBit_lt_two_pow (Nat.lt_of_lt_of_le ham (Nat.pow_le_pow_right (n := 2) (by decide) (show 6 ≤ i by omega)))]
    simp
theorem zrs_lt {re k : Nat} {a : Nat → Nat} : ∀ {f : Nat}, (∀ g, g < f → a g < 64) → zrs re a k f < 64
  | 0, _ => Nat.zero_lt_succ _
  | f + 1, h => by
    have e := zrs_lt (re := re) (k := k) (f := f) (fun g hg => h g (by omega))
    rw [zrs]
    split
    · exact Nat.or_lt_two_pow (n := 6) e (h f (by omega))
    · exact e
section
variable {K : zK} {l : Launch} {n p q r g k f re am tn : Nat} {h : zH} {x y z : Int32} {P : zP} {se ri ti fe ev mi : Int32} {ch co fo : Int64} {sets sin pi : Nat → Int32} {pr lw : Nat → Int64} {a : Nat → Nat}
theorem r_X1_openIn (hN : isNights h (se, ri, ti, nI re, ch, fe, ev, mi, sets, sin, pr, lw, nI am, nI tn, co, fo, pi)) (hre : re ≤ 3) (ham : am < 64) (htn : tn ≤ 4) (hpi : ∀ g, g < f → pi g = nI (a g)) (hf3 : f ≤ 3) (hfk : f ≤ k) (hk : k ≤ 3) : zRet K l 0 mX1_openIn [.ref 22, .int (nI k), .int (nI f)] 59 h (some (.int (nI (nOpn am tn re a k f)))) h := by
  refine zRet.of (by decide) (Nat.le_of_ble_eq_true rfl) (fun Q hQ => ?_)
  obtain ⟨h1, h2, h3, h4, h5, h6⟩ := hN
  have fin : ∀ ls : List (Nat × Value), ls.filter (fun q => [0, 3, 4, 5, 6].contains q.1) = [(0, .ref 22), (3, .int (nI (zo1 a f))), (4, .int (nI (zo2 a f))), (5, .int (nI (zo3 a f))), (6, .int (nI (zrs re a k f)))] → zGo K l 0 mX1_openIn 83 ls [] 59 h 0 0 Q := by
    intro ls hls
    refine zg_keep [0, 3, 4, 5, 6] ?_
    rw [hls]
    rcases (show tn = 0 ∨ tn = 1 ∨ tn = 2 ∨ tn = 3 ∨ tn = 4 by omega) with rfl | rfl | rfl | rfl | rfl
    · refine kX1_openIn_83 ?_
      refine zb_go (zg_aload_n rfl) rfl ?_
      refine zb_go (zg_getfield fX1_55 (by first | assumption | decide | omega) (by repeat (first | assumption | exact z_up_self _ _ _ | refine (z_up_ne (by first | decide | omega)).trans ?_)) (by rfl)) rfl ?_
      refine zb_end (len := 29) (zg_tableIn 29 116 (by decide) (by decide) (by rfl) (by decide) ?_) rfl
      refine kX1_openIn_116 ?_
      refine zb_go (zg_iconst 0 (by decide)) rfl ?_
      refine zb_end (zg_ireturn rfl (by rfl) ?_) rfl
      have e : nOpn am 0 re a k f = 0 := by
        apply Nat.eq_of_testBit_eq
        intro i
        rw [nOpn_bit]
        simp
      rw [e] at hQ
      exact hQ
    · refine kX1_openIn_83 ?_
      refine zb_go (zg_aload_n rfl) rfl ?_
      refine zb_go (zg_getfield fX1_55 (by first | assumption | decide | omega) (by repeat (first | assumption | exact z_up_self _ _ _ | refine (z_up_ne (by first | decide | omega)).trans ?_)) (by rfl)) rfl ?_
      refine zb_end (len := 29) (zg_tableIn 31 118 (by decide) (by decide) (by rfl) (by decide) ?_) rfl
      refine kX1_openIn_118 ?_
      refine zb_go (zg_aload_n rfl) rfl ?_
      refine zb_go (zg_getfield fX1_52 (by first | assumption | decide | omega) (by repeat (first | assumption | exact z_up_self _ _ _ | refine (z_up_ne (by first | decide | omega)).trans ?_)) (by rfl)) rfl ?_
      refine zb_go (zg_iload rfl) rfl ?_
      refine zb_go (zg_iload_n rfl) rfl ?_
      refine zb_go zg_ior rfl ?_
      refine zb_go (zg_iconst (-1) (by decide)) rfl ?_
      refine zb_go zg_ixor rfl ?_
      refine zb_go zg_iand rfl ?_
      refine zb_end (zg_ireturn rfl (by rfl) ?_) rfl
      rw [z_or, z_andn, nOpn_eq ham (fun i => zo1_bit a i f)]
      exact hQ
    · refine kX1_openIn_83 ?_
      refine zb_go (zg_aload_n rfl) rfl ?_
      refine zb_go (zg_getfield fX1_55 (by first | assumption | decide | omega) (by repeat (first | assumption | exact z_up_self _ _ _ | refine (z_up_ne (by first | decide | omega)).trans ?_)) (by rfl)) rfl ?_
      refine zb_end (len := 29) (zg_tableIn 43 130 (by decide) (by decide) (by rfl) (by decide) ?_) rfl
      refine kX1_openIn_130 ?_
      refine zb_go (zg_aload_n rfl) rfl ?_
      refine zb_go (zg_getfield fX1_52 (by first | assumption | decide | omega) (by repeat (first | assumption | exact z_up_self _ _ _ | refine (z_up_ne (by first | decide | omega)).trans ?_)) (by rfl)) rfl ?_
      refine zb_go (zg_iload rfl) rfl ?_
      refine zb_go (zg_iload rfl) rfl ?_
      refine zb_go zg_ior rfl ?_
      refine zb_go (zg_iconst (-1) (by decide)) rfl ?_
      refine zb_go zg_ixor rfl ?_
      refine zb_go zg_iand rfl ?_
      refine zb_end (zg_ireturn rfl (by rfl) ?_) rfl
      rw [z_or, z_andn, nOpn_eq ham (fun i => zo2_bit a i f)]
      exact hQ
    · refine kX1_openIn_83 ?_
      refine zb_go (zg_aload_n rfl) rfl ?_
      refine zb_go (zg_getfield fX1_55 (by first | assumption | decide | omega) (by repeat (first | assumption | exact z_up_self _ _ _ | refine (z_up_ne (by first | decide | omega)).trans ?_)) (by rfl)) rfl ?_
      refine zb_end (len := 29) (zg_tableIn 56 143 (by decide) (by decide) (by rfl) (by decide) ?_) rfl
      refine kX1_openIn_143 ?_
      refine zb_go (zg_aload_n rfl) rfl ?_
      refine zb_go (zg_getfield fX1_52 (by first | assumption | decide | omega) (by repeat (first | assumption | exact z_up_self _ _ _ | refine (z_up_ne (by first | decide | omega)).trans ?_)) (by rfl)) rfl ?_
      refine zb_go (zg_iload rfl) rfl ?_
      refine zb_go (zg_iload rfl) rfl ?_
      refine zb_go zg_ior rfl ?_
      refine zb_go (zg_iconst (-1) (by decide)) rfl ?_
      refine zb_go zg_ixor rfl ?_
      refine zb_go zg_iand rfl ?_
      refine zb_end (zg_ireturn rfl (by rfl) ?_) rfl
      rw [z_or, z_andn, nOpn_eq ham (fun i => zo3_bit a i f)]
      exact hQ
    · refine kX1_openIn_83 ?_
      refine zb_go (zg_aload_n rfl) rfl ?_
      refine zb_go (zg_getfield fX1_55 (by first | assumption | decide | omega) (by repeat (first | assumption | exact z_up_self _ _ _ | refine (z_up_ne (by first | decide | omega)).trans ?_)) (by rfl)) rfl ?_
      have ho : (nI 4).toInt < 0 ∨ 3 < (nI 4).toInt := Or.inr (by decide)
      refine zb_end (len := 29) (zg_tableOut 156 ho (by decide) ?_) rfl
      refine kX1_openIn_156 ?_
      refine zb_go (zg_aload_n rfl) rfl ?_
      refine zb_go (zg_getfield fX1_52 (by first | assumption | decide | omega) (by repeat (first | assumption | exact z_up_self _ _ _ | refine (z_up_ne (by first | decide | omega)).trans ?_)) (by rfl)) rfl ?_
      refine zb_go (zg_iload rfl) rfl ?_
      refine zb_go (zg_iconst (-1) (by decide)) rfl ?_
      refine zb_go zg_ixor rfl ?_
      refine zb_go zg_iand rfl ?_
      refine zb_end (zg_ireturn rfl (by rfl) ?_) rfl
      have e := nOpn_eq (tn := 4) (re := re) (k := k) (f := f) (a := a) ham (o := 0) (fun i => by
        have := zcnt_le (fun g => (a g).testBit i) f
        rw [Nat.zero_testBit, decide_eq_false (by omega)])
      rw [Nat.or_zero] at e
      rw [z_andn, e]
      exact hQ
  have lp : ∀ j, j ≤ f → ∀ z, (z = [] ∨ ∃ v, z = [(8, Value.int v)]) → zGo K l 0 mX1_openIn 14 ([(0, .ref 22), (1, .int (nI k)), (2, .int (nI f)), (3, .int (nI (zo1 a j))), (4, .int (nI (zo2 a j))), (5, .int (nI (zo3 a j))), (6, .int (nI (zrs re a k j))), (7, .int (nI j))] ++ z) [] 59 h 0 0 Q := by
    refine z_down f (fun j hj ih z hz => ?_)
    refine zg_keep [0, 1, 2, 3, 4, 5, 6, 7] ?_
    have el : ((([(0, .ref 22), (1, .int (nI k)), (2, .int (nI f)), (3, .int (nI (zo1 a j))), (4, .int (nI (zo2 a j))), (5, .int (nI (zo3 a j))), (6, .int (nI (zrs re a k j))), (7, .int (nI j))] : List (Nat × Value)) ++ z).filter (fun q => [0, 1, 2, 3, 4, 5, 6, 7].contains q.1)) = [(0, .ref 22), (1, .int (nI k)), (2, .int (nI f)), (3, .int (nI (zo1 a j))), (4, .int (nI (zo2 a j))), (5, .int (nI (zo3 a j))), (6, .int (nI (zrs re a k j))), (7, .int (nI j))] := by
      rcases hz with rfl | ⟨v, rfl⟩ <;> rfl
    rw [el]
    refine kX1_openIn_14 ?_
    refine zb_go (zg_iload rfl) rfl ?_
    refine zb_go (zg_iload_n rfl) rfl ?_
    refine zb_br (zg_icmp_ge (tgt := 83) (by decide)) rfl (fun c0 => ?_) (fun c0 => ?_)
    · have e : j = f := by
        have := (nI_leI (a := f) (b := j) (by omega) (by omega)).mp c0
        omega
      subst e
      exact fin _ rfl
    · have hjf : j < f := Nat.not_le.mp (fun q => c0 (nI_le q (by omega)))
      refine zb_go (zg_iload rfl) rfl ?_
      refine zb_go (zg_iconst 4 (by decide)) rfl ?_
      refine zb_br (zg_icmp_ge (tgt := 83) (by decide)) rfl (fun c1 => ?_) (fun c1 => ?_)
      · exact absurd ((nI_leI (a := 4) (b := j) (by decide) (by omega)).mp c1) (by omega)
      · refine zb_go (zg_aload_n rfl) rfl ?_
        refine zb_go (zg_getfield fX1_68 (by first | assumption | decide | omega) (by repeat (first | assumption | exact z_up_self _ _ _ | refine (z_up_ne (by first | decide | omega)).trans ?_)) (by rfl)) rfl ?_
        refine zb_go (zg_iload rfl) rfl ?_
        refine zb_go (zi_iaload (by first | assumption | decide | omega) (by repeat (first | assumption | exact z_up_self _ _ _ | refine (z_up_ne (by first | decide | omega)).trans ?_)) (zIx.nI (show j < 4 by omega) (by decide))) rfl ?_
        refine zb_go (zg_istore (by decide)) rfl ?_
        refine zb_go (zg_iload rfl) rfl ?_
        refine zb_go (zg_iload rfl) rfl ?_
        refine zb_go (zg_iload rfl) rfl ?_
        refine zb_go zg_iand rfl ?_
        refine zb_go zg_ior rfl ?_
        refine zb_go (zg_istore (by decide)) rfl ?_
        refine zb_go (zg_iload rfl) rfl ?_
        refine zb_go (zg_iload_n rfl) rfl ?_
        refine zb_go (zg_iload rfl) rfl ?_
        refine zb_go zg_iand rfl ?_
        refine zb_go zg_ior rfl ?_
        refine zb_go (zg_istore (by decide)) rfl ?_
        refine zb_go (zg_iload_n rfl) rfl ?_
        refine zb_go (zg_iload rfl) rfl ?_
        refine zb_go zg_ior rfl ?_
        refine zb_go (zg_istore_n (by decide)) rfl ?_
        refine zb_go (zg_iload_n rfl) rfl ?_
        refine zb_go (zg_iload rfl) rfl ?_
        rw [hpi j hjf, z_and, z_or, z_and, z_or, z_or]
        refine zb_go zg_isub rfl ?_
        rw [pk_sub (show j ≤ k by omega)]
        refine zb_go (zg_aload_n rfl) rfl ?_
        refine zb_go (zg_getfield fX1_22 (by first | assumption | decide | omega) (by repeat (first | assumption | exact z_up_self _ _ _ | refine (z_up_ne (by first | decide | omega)).trans ?_)) (by rfl)) rfl ?_
        refine zb_br (zg_icmp_gt (tgt := 77) (by decide)) rfl (fun c2 => ?_) (fun c2 => ?_)
        · have c2 : ¬ k - j ≤ re := fun q => by
            have := (nI_ltI (a := re) (b := k - j) (by omega) (by omega)).mp c2
            omega
          refine kX1_openIn_77 ?_
          refine zb_go (zg_iinc 1 (by decide) rfl (by decide)) rfl ?_
          refine zb_end (zg_goto (tgt := 14) (by decide) ?_) rfl
          rw [nI_1]
          have eq := ih hjf [(8, .int (nI (a j)))] (Or.inr ⟨_, rfl⟩)
          rw [zrs, if_neg c2] at eq
          exact eq
        · have c2 : k - j ≤ re := by
            rcases Nat.lt_or_ge re (k - j) with q | q
            · exact absurd (nI_lt q (by omega)) c2
            · exact q
          refine zb_go (zg_iload rfl) rfl ?_
          refine zb_go (zg_iload rfl) rfl ?_
          refine zb_go zg_ior rfl ?_
          refine zb_go (zg_istore (by decide)) rfl ?_
          refine zb_out ?_
          refine kX1_openIn_77 ?_
          refine zb_go (zg_iinc 1 (by decide) rfl (by decide)) rfl ?_
          refine zb_end (zg_goto (tgt := 14) (by decide) ?_) rfl
          rw [z_or, nI_1]
          have eq := ih hjf [(8, .int (nI (a j)))] (Or.inr ⟨_, rfl⟩)
          rw [zrs, if_pos c2] at eq
          exact eq
  refine kX1_openIn_0 ?_
  refine zb_go (zg_iconst 0 (by decide)) rfl ?_
  refine zb_go (zg_istore_n (by decide)) rfl ?_
  refine zb_go (zg_iconst 0 (by decide)) rfl ?_
  refine zb_go (zg_istore (by decide)) rfl ?_
  refine zb_go (zg_iconst 0 (by decide)) rfl ?_
  refine zb_go (zg_istore (by decide)) rfl ?_
  refine zb_go (zg_iconst 0 (by decide)) rfl ?_
  refine zb_go (zg_istore (by decide)) rfl ?_
  refine zb_go (zg_iconst 0 (by decide)) rfl ?_
  refine zb_go (zg_istore (by decide)) rfl ?_
  refine zb_out ?_
  exact lp 0 (Nat.zero_le _) [] (Or.inl rfl)
end
