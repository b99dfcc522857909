/-! THE MODEL (15): here, meaning, next -/
theorem zp_13 {K : zK} {l : Launch} {d : Nat} {M : zM} {pc : Nat} {ls : List (Nat × Value)} {sk : List Value} {h : zH} {mc ms : Nat} {Q : zQ} {idx : Nat} {tr : Int64} {ty x at_ st so va fa to mo wa fe ev : Int32} (hf : zFl M.1.cls idx 5 13) (hd : decode M.2.1 pc = .ok (.putfield idx, 3)) (kk : zGo K l d M (pc + 3) ls sk 59 (z_up h 34 (mObj tr ty (x, st, so, va, fa, to, mo, wa, fe, ev))) mc ms Q) : zGo K l d M pc ls (.int x :: .ref 34 :: sk) 59 (z_up h 34 (mObj tr ty (at_, st, so, va, fa, to, mo, wa, fe, ev))) mc ms Q := by
  refine zg_putfield hf (by decide) (z_up_self _ _ _) (by exact Nat.le_of_ble_eq_true rfl) (by rfl) (by rfl) (Or.inl rfl) hd ?_
  rw [z_up_up]
  exact kk
theorem zp_14 {K : zK} {l : Launch} {d : Nat} {M : zM} {pc : Nat} {ls : List (Nat × Value)} {sk : List Value} {h : zH} {mc ms : Nat} {Q : zQ} {idx : Nat} {tr : Int64} {ty x at_ st so va fa to mo wa fe ev : Int32} (hf : zFl M.1.cls idx 5 14) (hd : decode M.2.1 pc = .ok (.putfield idx, 3)) (kk : zGo K l d M (pc + 3) ls sk 59 (z_up h 34 (mObj tr ty (at_, x, so, va, fa, to, mo, wa, fe, ev))) mc ms Q) : zGo K l d M pc ls (.int x :: .ref 34 :: sk) 59 (z_up h 34 (mObj tr ty (at_, st, so, va, fa, to, mo, wa, fe, ev))) mc ms Q := by
  refine zg_putfield hf (by decide) (z_up_self _ _ _) (by exact Nat.le_of_ble_eq_true rfl) (by rfl) (by rfl) (Or.inl rfl) hd ?_
  rw [z_up_up]
  exact kk
theorem zp_15 {K : zK} {l : Launch} {d : Nat} {M : zM} {pc : Nat} {ls : List (Nat × Value)} {sk : List Value} {h : zH} {mc ms : Nat} {Q : zQ} {idx : Nat} {tr : Int64} {ty x at_ st so va fa to mo wa fe ev : Int32} (hf : zFl M.1.cls idx 5 15) (hd : decode M.2.1 pc = .ok (.putfield idx, 3)) (kk : zGo K l d M (pc + 3) ls sk 59 (z_up h 34 (mObj tr ty (at_, st, x, va, fa, to, mo, wa, fe, ev))) mc ms Q) : zGo K l d M pc ls (.int x :: .ref 34 :: sk) 59 (z_up h 34 (mObj tr ty (at_, st, so, va, fa, to, mo, wa, fe, ev))) mc ms Q := by
  refine zg_putfield hf (by decide) (z_up_self _ _ _) (by exact Nat.le_of_ble_eq_true rfl) (by rfl) (by rfl) (Or.inl rfl) hd ?_
  rw [z_up_up]
  exact kk
theorem zp_16 {K : zK} {l : Launch} {d : Nat} {M : zM} {pc : Nat} {ls : List (Nat × Value)} {sk : List Value} {h : zH} {mc ms : Nat} {Q : zQ} {idx : Nat} {tr : Int64} {ty x at_ st so va fa to mo wa fe ev : Int32} (hf : zFl M.1.cls idx 5 16) (hd : decode M.2.1 pc = .ok (.putfield idx, 3)) (kk : zGo K l d M (pc + 3) ls sk 59 (z_up h 34 (mObj tr ty (at_, st, so, x, fa, to, mo, wa, fe, ev))) mc ms Q) : zGo K l d M pc ls (.int x :: .ref 34 :: sk) 59 (z_up h 34 (mObj tr ty (at_, st, so, va, fa, to, mo, wa, fe, ev))) mc ms Q := by
  refine zg_putfield hf (by decide) (z_up_self _ _ _) (by exact Nat.le_of_ble_eq_true rfl) (by rfl) (by rfl) (Or.inl rfl) hd ?_
  rw [z_up_up]
  exact kk
theorem zp_17 {K : zK} {l : Launch} {d : Nat} {M : zM} {pc : Nat} {ls : List (Nat × Value)} {sk : List Value} {h : zH} {mc ms : Nat} {Q : zQ} {idx : Nat} {tr : Int64} {ty x at_ st so va fa to mo wa fe ev : Int32} (hf : zFl M.1.cls idx 5 17) (hd : decode M.2.1 pc = .ok (.putfield idx, 3)) (kk : zGo K l d M (pc + 3) ls sk 59 (z_up h 34 (mObj tr ty (at_, st, so, va, x, to, mo, wa, fe, ev))) mc ms Q) : zGo K l d M pc ls (.int x :: .ref 34 :: sk) 59 (z_up h 34 (mObj tr ty (at_, st, so, va, fa, to, mo, wa, fe, ev))) mc ms Q := by
  refine zg_putfield hf (by decide) (z_up_self _ _ _) (by exact Nat.le_of_ble_eq_true rfl) (by rfl) (by rfl) (Or.inl rfl) hd ?_
  rw [z_up_up]
  exact kk
theorem zp_18 {K : zK} {l : Launch} {d : Nat} {M : zM} {pc : Nat} {ls : List (Nat × Value)} {sk : List Value} {h : zH} {mc ms : Nat} {Q : zQ} {idx : Nat} {tr : Int64} {ty x at_ st so va fa to mo wa fe ev : Int32} (hf : zFl M.1.cls idx 5 18) (hd : decode M.2.1 pc = .ok (.putfield idx, 3)) (kk : zGo K l d M (pc + 3) ls sk 59 (z_up h 34 (mObj tr ty (at_, st, so, va, fa, x, mo, wa, fe, ev))) mc ms Q) : zGo K l d M pc ls (.int x :: .ref 34 :: sk) 59 (z_up h 34 (mObj tr ty (at_, st, so, va, fa, to, mo, wa, fe, ev))) mc ms Q := by
  refine zg_putfield hf (by decide) (z_up_self _ _ _) (by exact Nat.le_of_ble_eq_true rfl) (by rfl) (by rfl) (Or.inl rfl) hd ?_
  rw [z_up_up]
  exact kk
def kSo (f : Nat → Int32) (len i : Nat) : Nat := if len ≤ pSk f len i then 5 else if pAz f (pSk f len i) = true then (pKind f len (pSk f len i)).getD 8 else if p09 f (pSk f len i) = true then (if 99 < mVal f (pSk f len i) (pDg f len (pSk f len i) - pSk f len i) ∨ (f (pSk f len i) = 48 ∧ 1 < pDg f len (pSk f len i) - pSk f len i) then 8 else 6) else if f (pSk f len i) = 59 then 7 else 8
def kVa (f : Nat → Int32) (len i : Nat) : Nat := if len ≤ pSk f len i then 0 else if pAz f (pSk f len i) = true then 0 else if p09 f (pSk f len i) = true then mVal f (pSk f len i) (pDg f len (pSk f len i) - pSk f len i) else 0
def kAt (f : Nat → Int32) (len i : Nat) : Nat := if len ≤ pSk f len i then pSk f len i else if pAz f (pSk f len i) = true then pLt f len (pSk f len i) else if p09 f (pSk f len i) = true then pDg f len (pSk f len i) else pSk f len i + 1
theorem zin {u lo hi : Nat} (hu : u < 256) (hl : lo < 256) (hh : hi < 256) : (nI lo ≤ nI u ∧ nI u ≤ nI hi) ↔ lo ≤ u ∧ u ≤ hi := by
  rw [nI_leI (by omega) (by omega), nI_leI (by omega) (by omega)]
section
variable {K : zK} {l : Launch} {n p q r g0 k s i len : Nat} {h h1 g : zH} {x y z : Int32} {G : zS} {P : zP} {f tx : Nat → Int32} {T : zT} {tr : Int64} {ty : Int32} {X : zX} {at_ st so va fa to mo wa fe ev : Int32}
theorem r_X6_here (h34 : h 34 = mObj tr (nI len) (nI k, st, so, va, fa, to, mo, wa, fe, ev)) (h35 : h 35 = .inl (1, 200, .inl tx)) (htx : ∀ j, j < len → tx j = f j ∧ isByte (f j)) (hl : len ≤ 200) (hk : k ≤ 200) : zRet K l 0 mX6_here [.ref 34] 59 h (some (.int (if k < len then nI (zu (f k)) else -1))) h := by
  refine zRet.of (by decide) (Nat.le_of_ble_eq_true rfl) (fun Q hQ => ?_)
  have h1 : h 34 = .inr _ := h34
  refine kX6_here_0 ?_
  refine zb_go (zg_aload_n rfl) rfl ?_
  refine zb_go (zg_getfield fX6_97 (by first | decide | assumption | omega) (by repeat (first | assumption | exact z_up_self _ _ _ | refine (z_up_ne (by first | decide | omega)).trans ?_)) (by rfl)) rfl ?_
  refine zb_go (zg_aload_n rfl) rfl ?_
  refine zb_go (zg_getfield fX6_91 (by first | decide | assumption | omega) (by repeat (first | assumption | exact z_up_self _ _ _ | refine (z_up_ne (by first | decide | omega)).trans ?_)) (by rfl)) rfl ?_
  refine zb_br (zg_icmp_ge (tgt := 27) (by decide)) rfl (fun c => ?_) (fun c => ?_)
  · have c := (nI_leI (by omega) (by omega)).mp c
    rw [if_neg (by omega)] at hQ
    refine kX6_here_27 ?_
    refine zb_go (zg_iconst (-1) (by decide)) rfl ?_
    refine zb_out ?_
    refine kX6_here_28 ?_
    refine zb_end (zg_ireturn rfl (by rfl) ?_) rfl
    exact hQ
  · have c : k < len := by
      rcases Nat.lt_or_ge k len with w | w
      · exact w
      · exact absurd (nI_le w (by omega)) c
    rw [if_pos c] at hQ
    obtain ⟨e1, e2⟩ := htx k c
    refine zb_go (zg_aload_n rfl) rfl ?_
    refine zb_go (zg_getfield fX6_7 (by first | decide | assumption | omega) (by repeat (first | assumption | exact z_up_self _ _ _ | refine (z_up_ne (by first | decide | omega)).trans ?_)) (by rfl)) rfl ?_
    refine zb_go (zg_aload_n rfl) rfl ?_
    refine zb_go (zg_getfield fX6_97 (by first | decide | assumption | omega) (by repeat (first | assumption | exact z_up_self _ _ _ | refine (z_up_ne (by first | decide | omega)).trans ?_)) (by rfl)) rfl ?_
    refine zb_go (zi_baload (by first | decide | assumption | omega) (by repeat (first | assumption | exact z_up_self _ _ _ | refine (z_up_ne (by first | decide | omega)).trans ?_)) (zIx.nI (k := k) (by omega) (by decide))) rfl ?_
    refine zb_go (zg_sipush 255 (by decide)) rfl ?_
    rw [e1]
    refine zb_go zg_iand rfl ?_
    rw [(zu_spec e2).1]
    refine zb_end (zg_goto (tgt := 28) (by decide) ?_) rfl
    refine kX6_here_28 ?_
    refine zb_end (zg_ireturn rfl (by rfl) ?_) rfl
    exact hQ
theorem r_X6_meaning {c : Nat} (hc : c < 2 ^ 31) : zRet K l 0 mX6_meaning [.int (nI c)] n h (some (.int (nI (kMean c)))) h := by
  refine zRet.of (by decide) (Nat.le_of_ble_eq_true rfl) (fun Q hQ => ?_)
  have e := nI_toInt hc
  unfold kMean at hQ
  refine kX6_meaning_0 ?_
  refine zb_go (zg_iload_n rfl) rfl ?_
  by_cases c0 : c = 168984
  · rw [if_pos c0] at hQ
    refine zb_end (len := 51) (zg_lookup 51 52 (by decide) (by rw [e, c0]; decide) (by decide) ?_) rfl
    refine kX6_meaning_52 ?_
    refine zb_go (zg_iconst 0 (by decide)) rfl ?_
    refine zb_end (zg_ireturn rfl (by rfl) ?_) rfl
    exact hQ
  · rw [if_neg c0] at hQ
    by_cases c1 : c = 263344113
    · rw [if_pos c1] at hQ
      refine zb_end (len := 51) (zg_lookup 53 54 (by decide) (by rw [e, c1]; decide) (by decide) ?_) rfl
      refine kX6_meaning_54 ?_
      refine zb_go (zg_iconst 1 (by decide)) rfl ?_
      refine zb_end (zg_ireturn rfl (by rfl) ?_) rfl
      exact hQ
    · rw [if_neg c1] at hQ
      by_cases c2 : c = 10940985
      · rw [if_pos c2] at hQ
        refine zb_end (len := 51) (zg_lookup 55 56 (by decide) (by rw [e, c2]; decide) (by decide) ?_) rfl
        refine kX6_meaning_56 ?_
        refine zb_go (zg_iconst 2 (by decide)) rfl ?_
        refine zb_end (zg_ireturn rfl (by rfl) ?_) rfl
        exact hQ
      · rw [if_neg c2] at hQ
        by_cases c3 : c = 10815598
        · rw [if_pos c3] at hQ
          refine zb_end (len := 51) (zg_lookup 57 58 (by decide) (by rw [e, c3]; decide) (by decide) ?_) rfl
          refine kX6_meaning_58 ?_
          refine zb_go (zg_iconst 3 (by decide)) rfl ?_
          refine zb_end (zg_ireturn rfl (by rfl) ?_) rfl
          exact hQ
        · rw [if_neg c3] at hQ
          by_cases c4 : c = 358472
          · rw [if_pos c4] at hQ
            refine zb_end (len := 51) (zg_lookup 59 60 (by decide) (by rw [e, c4]; decide) (by decide) ?_) rfl
            refine kX6_meaning_60 ?_
            refine zb_go (zg_iconst 4 (by decide)) rfl ?_
            refine zb_end (zg_ireturn rfl (by rfl) ?_) rfl
            exact hQ
          · rw [if_neg c4] at hQ
            refine zb_end (len := 51) (zg_lookup 61 62 (by decide) (by
              rw [e]
              show Op.lookupswitch.offset [(168984, 51), (358472, 59), (10815598, 57), (10940985, 55), (263344113, 53)] 61 (c : Int) = 61
              rw [Op.lookupswitch.offset_cons, if_neg (by omega), Op.lookupswitch.offset_cons, if_neg (by omega), Op.lookupswitch.offset_cons, if_neg (by omega), Op.lookupswitch.offset_cons, if_neg (by omega), Op.lookupswitch.offset_cons, if_neg (by omega), Op.lookupswitch.offset_nil]) (by decide) ?_) rfl
            refine kX6_meaning_62 ?_
            refine zb_go (zg_bipush 8 (by decide)) rfl ?_
            refine zb_end (zg_ireturn rfl (by rfl) ?_) rfl
            exact hQ
set_option maxHeartbeats 8000000 in
theorem r_X6_next0 (h35 : g 35 = .inl (1, 200, .inl tx)) (htx : ∀ j, j < len → tx j = f j ∧ isByte (f j)) (hl : len ≤ 200) (hi : i ≤ len) : zRex K l 1 mX6_next [.ref 34] 59 (z_up g 34 (mObj tr (nI len) (nI i, st, so, va, fa, to, mo, wa, fe, ev))) (fun v h' => v = none ∧ h' = z_up g 34 (mObj tr (nI len) (nI (kAt f len i), nI (pSk f len i), nI (kSo f len i), nI (kVa f len i), fa, to, mo, wa, fe, ev))) := by
  refine zRex.of (by decide) (Nat.le_of_ble_eq_true rfl) (fun Q hQ => ?_)
  have hr : ∀ {k : Nat} {st so va : Int32}, k ≤ 200 → zRet K l 0 mX6_here [.ref 34] 59 (z_up g 34 (mObj tr (nI len) (nI k, st, so, va, fa, to, mo, wa, fe, ev))) (some (.int (if k < len then nI (zu (f k)) else -1))) (z_up g 34 (mObj tr (nI len) (nI k, st, so, va, fa, to, mo, wa, fe, ev))) := fun hk => r_X6_here (z_up_self _ _ _) ((z_up_ne (by decide)).trans h35) htx hl hk
  have hs1 := pSk_le (f := f) hi
  have hs2 : i ≤ pSk f len i := pRun_ge _ _ _ _
  have hs3 := pRun_stop (pBl f) len 200 i (by omega)
  have hs4 := pRun_all (pBl f) len 200 i
  change ¬ (pSk f len i < len ∧ pBl f (pSk f len i) = true) at hs3
  change ∀ k, i ≤ k → k < pSk f len i → k < len ∧ pBl f k = true at hs4
  unfold kAt kSo kVa at hQ
  obtain ⟨s, es⟩ : ∃ s, pSk f len i = s := ⟨_, rfl⟩
  rw [es] at hs1 hs2 hs3 hs4 hQ
  clear es
  -- behind the blanks
  have main : zGo K l 1 mX6_next 22 [(0, .ref 34)] [] 59 (z_up g 34 (mObj tr (nI len) (nI s, st, so, va, fa, to, mo, wa, fe, ev))) 0 0 Q := by
    by_cases hsl : len ≤ s
    · simp only [if_pos hsl] at hQ
      refine kX6_next_22 ?_
      refine zb_go (zg_aload_n rfl) rfl ?_
      refine zb_go (zg_aload_n rfl) rfl ?_
      refine zb_go (zg_getfield fX6_97 (by first | decide | assumption | omega) (by repeat (first | assumption | exact z_up_self _ _ _ | refine (z_up_ne (by first | decide | omega)).trans ?_)) (by rfl)) rfl ?_
      refine zb_go (zp_14 fX6_104) rfl ?_
      refine zb_go (zg_aload_n rfl) rfl ?_
      refine zb_go (zg_iconst 0 (by decide)) rfl ?_
      refine zb_go (zp_16 fX6_107) rfl ?_
      refine zb_go (zg_aload_n rfl) rfl ?_
      refine zb_callv (hr (by omega)) lX6_100 (by repeat (first | assumption | exact z_up_self _ _ _ | refine (z_up_ne (by first | decide | omega)).trans ?_)) rfl rfl (by first | decide | assumption | omega) (by first | decide | omega) rfl (Nat.le_of_ble_eq_true rfl) rfl ?_
      rw [if_neg (by omega)]
      refine zb_go (zg_istore_n (by decide)) rfl ?_
      refine zb_go (zg_iload_n rfl) rfl ?_
      refine zb_br (zg_if_ge (tgt := 52) (by decide)) rfl (fun c0 => ?_) (fun c0 => ?_)
      · exact absurd c0 (by decide)
      · refine zb_go (zg_aload_n rfl) rfl ?_
        refine zb_go (zg_iconst 5 (by decide)) rfl ?_
        refine zb_go (zp_15 fX6_110) rfl ?_
        refine zb_end (zg_goto (tgt := 294) (by decide) ?_) rfl
        refine kX6_next_294 ?_
        refine zb_end (zg_return rfl ?_) rfl
        exact hQ _ _ ⟨rfl, rfl⟩
    · simp only [if_neg hsl] at hQ
      have hsl : s < len := by omega
      have hby := (htx s hsl).2
      have ku := (zu_spec hby).2.1
      obtain ⟨u, eu⟩ : ∃ u, zu (f s) = u := ⟨_, rfl⟩
      rw [eu] at ku
      have hAz := pAz_zu (f := f) (i := s) hby
      have h09 := p09_zu (f := f) (i := s) hby
      rw [eu] at hAz h09
      refine kX6_next_22 ?_
      refine zb_go (zg_aload_n rfl) rfl ?_
      refine zb_go (zg_aload_n rfl) rfl ?_
      refine zb_go (zg_getfield fX6_97 (by first | decide | assumption | omega) (by repeat (first | assumption | exact z_up_self _ _ _ | refine (z_up_ne (by first | decide | omega)).trans ?_)) (by rfl)) rfl ?_
      refine zb_go (zp_14 fX6_104) rfl ?_
      refine zb_go (zg_aload_n rfl) rfl ?_
      refine zb_go (zg_iconst 0 (by decide)) rfl ?_
      refine zb_go (zp_16 fX6_107) rfl ?_
      refine zb_go (zg_aload_n rfl) rfl ?_
      refine zb_callv (hr (by omega)) lX6_100 (by repeat (first | assumption | exact z_up_self _ _ _ | refine (z_up_ne (by first | decide | omega)).trans ?_)) rfl rfl (by first | decide | assumption | omega) (by first | decide | omega) rfl (Nat.le_of_ble_eq_true rfl) rfl ?_
      rw [if_pos hsl, eu]
      refine zb_go (zg_istore_n (by decide)) rfl ?_
      refine zb_go (zg_iload_n rfl) rfl ?_
      refine zb_br (zg_if_ge (tgt := 52) (by decide)) rfl (fun c0 => ?_) (fun c0 => ?_)
      · by_cases az : pAz f s = true
        · -- a word
          simp only [if_pos az] at hQ
          have hle := pLt_le (f := f) (len := len) (i := s) (by omega)
          have hge : s ≤ pLt f len s := pRun_ge _ _ _ _
          have hstop := pRun_stop (pAz f) len 200 s (by omega)
          have hall := pRun_all (pAz f) len 200 s
          change ¬ (pLt f len s < len ∧ pAz f (pLt f len s) = true) at hstop
          change ∀ k, s ≤ k → k < pLt f len s → k < len ∧ pAz f k = true at hall
          have hK := kMean_is (f := f) (len := len) (s := s) (by omega) (fun j hj => (htx j hj).2)
          rw [← hK] at hQ
          obtain ⟨m, em⟩ : ∃ m, pLt f len s = s + m := ⟨pLt f len s - s, by omega⟩
          rw [em] at hle hge hstop hall hQ
          rw [show s + m - s = m by omega] at hQ
          have hlt : ∀ j, j < m → 97 ≤ zu (f (s + j)) ∧ zu (f (s + j)) ≤ 122 := fun j hj => by
            have := hall (s + j) (by omega) (by omega)
            exact (pAz_zu (htx _ this.1).2).mp this.2
          have kC := kCode_lt (f := f) (s := s) (n := m) hlt
          have kC : ∀ j, j ≤ m → kCode f s j < 387420489 := kC
          have fin : ∀ c : Nat, c < 387420489 → c = (if 6 < m then 0 else kCode f s m) → ∀ a1 a2, zGo K l 1 mX6_next 143 [(0, .ref 34), (1, .int a1), (2, .int a2)] [.int (nI c), .ref 34] 59 (z_up g 34 (mObj tr (nI len) (nI (s + m), nI s, so, 0, fa, to, mo, wa, fe, ev))) 0 0 Q := by
            intro c hc ec a1 a2
            rw [← ec] at hQ
            refine kX6_next_143 ?_
            refine zb_calls (r_X6_meaning (by omega)) lX6_113 rfl (by first | decide | omega) rfl (Nat.le_of_ble_eq_true rfl) rfl ?_
            refine zb_go (zp_15 fX6_110) rfl ?_
            refine zb_end (zg_goto (tgt := 294) (by decide) ?_) rfl
            refine kX6_next_294 ?_
            refine zb_end (zg_return rfl ?_) rfl
            exact hQ _ _ ⟨rfl, rfl⟩
          have lp : ∀ j, j ≤ m → zGo K l 1 mX6_next 65 [(0, .ref 34), (1, .int (nI u)), (2, .int (nI (kCode f s j)))] [] 59 (z_up g 34 (mObj tr (nI len) (nI (s + j), nI s, so, 0, fa, to, mo, wa, fe, ev))) 0 0 Q := by
            refine z_down m (fun j hj ih => ?_)
            have kj := kC j hj
            by_cases hjm : j = m
            · subst hjm
              have hnot : ¬ (97 ≤ (if s + j < len then nI (zu (f (s + j))) else -1) ∧ (if s + j < len then nI (zu (f (s + j))) else -1) ≤ 122) := by
                by_cases w : s + j < len
                · rw [if_pos w]
                  intro q
                  have q := (zin (zu_spec (htx _ w).2).2.1 (lo := 97) (hi := 122) (by decide) (by decide)).mp q
                  exact hstop ⟨w, (pAz_zu (htx _ w).2).mpr q⟩
                · rw [if_neg w]; decide
              refine kX6_next_65 ?_
              refine zb_go (zg_aload_n rfl) rfl ?_
              refine zb_callv (hr (by omega)) lX6_100 (by repeat (first | assumption | exact z_up_self _ _ _ | refine (z_up_ne (by first | decide | omega)).trans ?_)) rfl rfl (by first | decide | assumption | omega) (by first | decide | omega) rfl (Nat.le_of_ble_eq_true rfl) rfl ?_
              refine zb_go (zg_bipush 97 (by decide)) rfl ?_
              refine zb_go (zg_bipush 122 (by decide)) rfl ?_
              refine zb_calls (r_X6_inF hnot) lX6_87 rfl (by first | decide | omega) rfl (Nat.le_of_ble_eq_true rfl) rfl ?_
              refine zb_br (zg_if_eq (tgt := 123) (by decide)) rfl (fun c1 => ?_) (fun c1 => ?_)
              · refine kX6_next_123 ?_
                refine zb_go (zg_aload_n rfl) rfl ?_
                refine zb_go (zg_aload_n rfl) rfl ?_
                refine zb_go (zg_getfield fX6_97 (by first | decide | assumption | omega) (by repeat (first | assumption | exact z_up_self _ _ _ | refine (z_up_ne (by first | decide | omega)).trans ?_)) (by rfl)) rfl ?_
                refine zb_go (zg_aload_n rfl) rfl ?_
                refine zb_go (zg_getfield fX6_104 (by first | decide | assumption | omega) (by repeat (first | assumption | exact z_up_self _ _ _ | refine (z_up_ne (by first | decide | omega)).trans ?_)) (by rfl)) rfl ?_
                refine zb_go zg_isub rfl ?_
                rw [pk_sub (by omega), show s + j - s = j by omega]
                refine zb_go (zg_bipush 6 (by decide)) rfl ?_
                refine zb_br (zg_icmp_le (tgt := 142) (by decide)) rfl (fun c2 => ?_) (fun c2 => ?_)
                · have c2 := (nI_leI (b := 6) (by omega) (by decide)).mp c2
                  refine kX6_next_142 ?_
                  refine zb_go (zg_iload_n rfl) rfl ?_
                  refine zb_out ?_
                  exact fin _ kj (by rw [if_neg (by omega)]) _ _
                · have c2 : 6 < j := by
                    rcases Nat.lt_or_ge 6 j with w | w
                    · exact w
                    · exact absurd (nI_le (b := 6) w (by decide)) c2
                  refine zb_go (zg_iconst 0 (by decide)) rfl ?_
                  refine zb_end (zg_goto (tgt := 143) (by decide) ?_) rfl
                  exact fin 0 (by decide) (by rw [if_pos c2]) _ _
              · exact absurd rfl c1
            · have hj2 : j < m := by omega
              have ih := ih hj2
              have hin := hall (s + j) (by omega) (by omega)
              have hd := hlt j hj2
              have hyes : 97 ≤ (if s + j < len then nI (zu (f (s + j))) else -1) ∧ (if s + j < len then nI (zu (f (s + j))) else -1) ≤ 122 := by
                rw [if_pos hin.1]
                exact (zin (by omega) (lo := 97) (hi := 122) (by decide) (by decide)).mpr hd
              have back : ∀ w : Int32, w = nI (kCode f s (j + 1)) → zGo K l 1 mX6_next 109 [(0, .ref 34), (1, .int (nI u)), (2, .int (nI (kCode f s j)))] [.int w] 59 (z_up g 34 (mObj tr (nI len) (nI (s + j), nI s, so, 0, fa, to, mo, wa, fe, ev))) 0 0 Q := by
                intro w hw
                subst hw
                refine kX6_next_109 ?_
                refine zb_go (zg_istore_n (by decide)) rfl ?_
                refine zb_go (zg_aload_n rfl) rfl ?_
                refine zb_go (zg_dup rfl) rfl ?_
                refine zb_go (zg_getfield fX6_97 (by first | decide | assumption | omega) (by repeat (first | assumption | exact z_up_self _ _ _ | refine (z_up_ne (by first | decide | omega)).trans ?_)) (by rfl)) rfl ?_
                refine zb_go (zg_iconst 1 (by decide)) rfl ?_
                refine zb_go zg_iadd rfl ?_
                rw [nI_1]
                refine zb_go (zp_13 fX6_97) rfl ?_
                refine zb_end (zg_goto (tgt := 65) (by decide) ?_) rfl
                exact ih
              refine kX6_next_65 ?_
              refine zb_go (zg_aload_n rfl) rfl ?_
              refine zb_callv (hr (by omega)) lX6_100 (by repeat (first | assumption | exact z_up_self _ _ _ | refine (z_up_ne (by first | decide | omega)).trans ?_)) rfl rfl (by first | decide | assumption | omega) (by first | decide | omega) rfl (Nat.le_of_ble_eq_true rfl) rfl ?_
              refine zb_go (zg_bipush 97 (by decide)) rfl ?_
              refine zb_go (zg_bipush 122 (by decide)) rfl ?_
              refine zb_calls (r_X6_inT hyes) lX6_87 rfl (by first | decide | omega) rfl (Nat.le_of_ble_eq_true rfl) rfl ?_
              refine zb_br (zg_if_eq (tgt := 123) (by decide)) rfl (fun c1 => ?_) (fun c1 => ?_)
              · exact absurd c1 (by decide)
              · refine zb_go (zg_aload_n rfl) rfl ?_
                refine zb_go (zg_getfield fX6_97 (by first | decide | assumption | omega) (by repeat (first | assumption | exact z_up_self _ _ _ | refine (z_up_ne (by first | decide | omega)).trans ?_)) (by rfl)) rfl ?_
                refine zb_go (zg_aload_n rfl) rfl ?_
                refine zb_go (zg_getfield fX6_104 (by first | decide | assumption | omega) (by repeat (first | assumption | exact z_up_self _ _ _ | refine (z_up_ne (by first | decide | omega)).trans ?_)) (by rfl)) rfl ?_
                refine zb_go zg_isub rfl ?_
                rw [pk_sub (by omega), show s + j - s = j by omega]
                refine zb_go (zg_bipush 6 (by decide)) rfl ?_
                refine zb_br (zg_icmp_ge (tgt := 108) (by decide)) rfl (fun c2 => ?_) (fun c2 => ?_)
                · have c2 := (nI_leI (a := 6) (by decide) (by omega)).mp c2
                  refine kX6_next_108 ?_
                  refine zb_go (zg_iconst 0 (by decide)) rfl ?_
                  refine zb_out ?_
                  refine back _ ?_
                  simp only [kCode, if_neg (show ¬ j < 6 by omega)]; rfl
                · have c2 : j < 6 := by
                    rcases Nat.lt_or_ge j 6 with w | w
                    · exact w
                    · exact absurd (nI_le (a := 6) w (by omega)) c2
                  refine zb_go (zg_bipush 27 (by decide)) rfl ?_
                  refine zb_go (zg_iload_n rfl) rfl ?_
                  refine zb_go zg_imul rfl ?_
                  refine zb_go (zg_aload_n rfl) rfl ?_
                  refine zb_callv (hr (by omega)) lX6_100 (by repeat (first | assumption | exact z_up_self _ _ _ | refine (z_up_ne (by first | decide | omega)).trans ?_)) rfl rfl (by first | decide | assumption | omega) (by first | decide | omega) rfl (Nat.le_of_ble_eq_true rfl) rfl ?_
                  rw [if_pos hin.1, show (27 : Int32) = nI 27 from rfl, pk_mul]
                  refine zb_go zg_iadd rfl ?_
                  rw [nI_add]
                  refine zb_go (zg_bipush 96 (by decide)) rfl ?_
                  refine zb_go zg_isub rfl ?_
                  rw [show (96 : Int32) = nI 96 from rfl, pk_sub (by omega)]
                  refine zb_end (zg_goto (tgt := 109) (by decide) ?_) rfl
                  refine back _ ?_
                  simp only [kCode, if_pos c2]
                  congr 1
                  omega
          have hyes : 97 ≤ nI u ∧ nI u ≤ 122 := (zin ku (lo := 97) (hi := 122) (by decide) (by decide)).mpr (hAz.mp az)
          refine kX6_next_52 ?_
          refine zb_go (zg_iload_n rfl) rfl ?_
          refine zb_go (zg_bipush 97 (by decide)) rfl ?_
          refine zb_go (zg_bipush 122 (by decide)) rfl ?_
          refine zb_calls (r_X6_inT hyes) lX6_87 rfl (by first | decide | omega) rfl (Nat.le_of_ble_eq_true rfl) rfl ?_
          refine zb_br (zg_if_eq (tgt := 152) (by decide)) rfl (fun c1 => ?_) (fun c1 => ?_)
          · exact absurd c1 (by decide)
          · refine zb_go (zg_iconst 0 (by decide)) rfl ?_
            refine zb_go (zg_istore_n (by decide)) rfl ?_
            refine zb_out ?_
            exact lp 0 (Nat.zero_le _)
        · have hno : ¬ (97 ≤ nI u ∧ nI u ≤ 122) := fun q => az (hAz.mpr ((zin ku (lo := 97) (hi := 122) (by decide) (by decide)).mp q))
          simp only [if_neg az] at hQ
          refine kX6_next_52 ?_
          refine zb_go (zg_iload_n rfl) rfl ?_
          refine zb_go (zg_bipush 97 (by decide)) rfl ?_
          refine zb_go (zg_bipush 122 (by decide)) rfl ?_
          refine zb_calls (r_X6_inF hno) lX6_87 rfl (by first | decide | omega) rfl (Nat.le_of_ble_eq_true rfl) rfl ?_
          refine zb_br (zg_if_eq (tgt := 152) (by decide)) rfl (fun c1 => ?_) (fun c1 => ?_)
          · by_cases dg : p09 f s = true
            · -- a number
              simp only [if_pos dg] at hQ
              have hle := pDg_le (f := f) (len := len) (i := s) (by omega)
              have hge : s ≤ pDg f len s := pRun_ge _ _ _ _
              have hstop := pRun_stop (p09 f) len 200 s (by omega)
              have hall := pRun_all (p09 f) len 200 s
              change ¬ (pDg f len s < len ∧ p09 f (pDg f len s) = true) at hstop
              change ∀ k, s ≤ k → k < pDg f len s → k < len ∧ p09 f k = true at hall
              obtain ⟨m, em⟩ : ∃ m, pDg f len s = s + m := ⟨pDg f len s - s, by omega⟩
              rw [em] at hle hge hstop hall hQ
              rw [show s + m - s = m by omega, show (48 : Int32) = nI 48 from rfl] at hQ
              have e48 := zu_eq (k := 48) hby (by decide)
              rw [eu] at e48
              have hlt : ∀ j, j < m → 48 ≤ zu (f (s + j)) ∧ zu (f (s + j)) ≤ 57 := fun j hj => by
                have := hall (s + j) (by omega) (by omega)
                exact (p09_zu (htx _ this.1).2).mp this.2
              have kV := mVal_le (f := f) (s := s) (n := m) hlt
              have fin : ∀ c : Nat, c = (if 99 < mVal f s m ∨ (f s = nI 48 ∧ 1 < m) then 8 else 6) → ∀ a1, zGo K l 1 mX6_next 261 [(0, .ref 34), (1, .int a1)] [.int (nI c), .ref 34] 59 (z_up g 34 (mObj tr (nI len) (nI (s + m), nI s, so, nI (mVal f s m), fa, to, mo, wa, fe, ev))) 0 0 Q := by
                intro c ec a1
                rw [← ec] at hQ
                refine kX6_next_261 ?_
                refine zb_go (zp_15 fX6_110) rfl ?_
                refine zb_end (zg_goto (tgt := 294) (by decide) ?_) rfl
                refine kX6_next_294 ?_
                refine zb_end (zg_return rfl ?_) rfl
                exact hQ _ _ ⟨rfl, rfl⟩
              have six : ¬ (99 < mVal f s m ∨ (f s = nI 48 ∧ 1 < m)) → ∀ a1, zGo K l 1 mX6_next 259 [(0, .ref 34), (1, .int a1)] [.ref 34] 59 (z_up g 34 (mObj tr (nI len) (nI (s + m), nI s, so, nI (mVal f s m), fa, to, mo, wa, fe, ev))) 0 0 Q := by
                intro hz a1
                refine kX6_next_259 ?_
                refine zb_go (zg_bipush 6 (by decide)) rfl ?_
                refine zb_out ?_
                exact fin 6 (by rw [if_neg hz]) _
              have eight : (99 < mVal f s m ∨ (f s = nI 48 ∧ 1 < m)) → ∀ a1, zGo K l 1 mX6_next 254 [(0, .ref 34), (1, .int a1)] [.ref 34] 59 (z_up g 34 (mObj tr (nI len) (nI (s + m), nI s, so, nI (mVal f s m), fa, to, mo, wa, fe, ev))) 0 0 Q := by
                intro hz a1
                refine kX6_next_254 ?_
                refine zb_go (zg_bipush 8 (by decide)) rfl ?_
                refine zb_end (zg_goto (tgt := 261) (by decide) ?_) rfl
                exact fin 8 (by rw [if_pos hz]) _
              have lp : ∀ j, j ≤ m → zGo K l 1 mX6_next 163 [(0, .ref 34), (1, .int (nI u))] [] 59 (z_up g 34 (mObj tr (nI len) (nI (s + j), nI s, so, nI (mVal f s j), fa, to, mo, wa, fe, ev))) 0 0 Q := by
                refine z_down m (fun j hj ih => ?_)
                have kj := kV j hj
                by_cases hjm : j = m
                · subst hjm
                  have hnot : ¬ (48 ≤ (if s + j < len then nI (zu (f (s + j))) else -1) ∧ (if s + j < len then nI (zu (f (s + j))) else -1) ≤ 57) := by
                    by_cases w : s + j < len
                    · rw [if_pos w]
                      intro q
                      have q := (zin (zu_spec (htx _ w).2).2.1 (lo := 48) (hi := 57) (by decide) (by decide)).mp q
                      exact hstop ⟨w, (p09_zu (htx _ w).2).mpr q⟩
                    · rw [if_neg w]; decide
                  refine kX6_next_163 ?_
                  refine zb_go (zg_aload_n rfl) rfl ?_
                  refine zb_callv (hr (by omega)) lX6_100 (by repeat (first | assumption | exact z_up_self _ _ _ | refine (z_up_ne (by first | decide | omega)).trans ?_)) rfl rfl (by first | decide | assumption | omega) (by first | decide | omega) rfl (Nat.le_of_ble_eq_true rfl) rfl ?_
                  refine zb_go (zg_bipush 48 (by decide)) rfl ?_
                  refine zb_go (zg_bipush 57 (by decide)) rfl ?_
                  refine zb_calls (r_X6_inF hnot) lX6_87 rfl (by first | decide | omega) rfl (Nat.le_of_ble_eq_true rfl) rfl ?_
                  refine zb_br (zg_if_eq (tgt := 225) (by decide)) rfl (fun c2 => ?_) (fun c2 => ?_)
                  · refine kX6_next_225 ?_
                    refine zb_go (zg_aload_n rfl) rfl ?_
                    refine zb_go (zg_aload_n rfl) rfl ?_
                    refine zb_go (zg_getfield fX6_107 (by first | decide | assumption | omega) (by repeat (first | assumption | exact z_up_self _ _ _ | refine (z_up_ne (by first | decide | omega)).trans ?_)) (by rfl)) rfl ?_
                    refine zb_go (zg_bipush 99 (by decide)) rfl ?_
                    refine zb_br (zg_icmp_gt (tgt := 254) (by decide)) rfl (fun c3 => ?_) (fun c3 => ?_)
                    · exact eight (Or.inl ((nI_ltI (a := 99) (by decide) (by omega)).mp c3)) _
                    · have c3 : ¬ 99 < mVal f s j := fun w => c3 (nI_lt (a := 99) w (by omega))
                      refine zb_go (zg_iload_n rfl) rfl ?_
                      refine zb_go (zg_bipush 48 (by decide)) rfl ?_
                      refine zb_br (zg_icmp_ne (tgt := 259) (by decide)) rfl (fun c4 => ?_) (fun c4 => ?_)
                      · refine six (fun w => ?_) _
                        rcases w with w | w
                        · exact c3 w
                        · exact c4 (by rw [e48.mp w.1]; rfl)
                      · have c4 : u = 48 := (nI_eq (b := 48) (by omega) (by decide)).mp c4
                        refine zb_go (zg_aload_n rfl) rfl ?_
                        refine zb_go (zg_getfield fX6_97 (by first | decide | assumption | omega) (by repeat (first | assumption | exact z_up_self _ _ _ | refine (z_up_ne (by first | decide | omega)).trans ?_)) (by rfl)) rfl ?_
                        refine zb_go (zg_aload_n rfl) rfl ?_
                        refine zb_go (zg_getfield fX6_104 (by first | decide | assumption | omega) (by repeat (first | assumption | exact z_up_self _ _ _ | refine (z_up_ne (by first | decide | omega)).trans ?_)) (by rfl)) rfl ?_
                        refine zb_go zg_isub rfl ?_
                        rw [pk_sub (by omega), show s + j - s = j by omega]
                        refine zb_go (zg_iconst 1 (by decide)) rfl ?_
                        refine zb_br (zg_icmp_le (tgt := 259) (by decide)) rfl (fun c5 => ?_) (fun c5 => ?_)
                        · have c5 := (nI_leI (b := 1) (by omega) (by decide)).mp c5
                          refine six (fun w => ?_) _
                          rcases w with w | w
                          · exact c3 w
                          · omega
                        · have c5 : 1 < j := by
                            rcases Nat.lt_or_ge 1 j with w | w
                            · exact w
                            · exact absurd (nI_le (b := 1) w (by decide)) c5
                          refine zb_out ?_
                          exact eight (Or.inr ⟨e48.mpr c4, c5⟩) _
                  · exact absurd rfl c2
                · have hj2 : j < m := by omega
                  have ih := ih hj2
                  have hin := hall (s + j) (by omega) (by omega)
                  have hd := hlt j hj2
                  have hyes : 48 ≤ (if s + j < len then nI (zu (f (s + j))) else -1) ∧ (if s + j < len then nI (zu (f (s + j))) else -1) ≤ 57 := by
                    rw [if_pos hin.1]
                    exact (zin (by omega) (lo := 48) (hi := 57) (by decide) (by decide)).mpr hd
                  have back : ∀ w : Int32, w = nI (mVal f s (j + 1)) → zGo K l 1 mX6_next 209 [(0, .ref 34), (1, .int (nI u))] [.int w, .ref 34] 59 (z_up g 34 (mObj tr (nI len) (nI (s + j), nI s, so, nI (mVal f s j), fa, to, mo, wa, fe, ev))) 0 0 Q := by
                    intro w hw
                    subst hw
                    refine kX6_next_209 ?_
                    refine zb_go (zp_16 fX6_107) rfl ?_
                    refine zb_go (zg_aload_n rfl) rfl ?_
                    refine zb_go (zg_dup rfl) rfl ?_
                    refine zb_go (zg_getfield fX6_97 (by first | decide | assumption | omega) (by repeat (first | assumption | exact z_up_self _ _ _ | refine (z_up_ne (by first | decide | omega)).trans ?_)) (by rfl)) rfl ?_
                    refine zb_go (zg_iconst 1 (by decide)) rfl ?_
                    refine zb_go zg_iadd rfl ?_
                    rw [nI_1]
                    refine zb_go (zp_13 fX6_97) rfl ?_
                    refine zb_end (zg_goto (tgt := 163) (by decide) ?_) rfl
                    exact ih
                  refine kX6_next_163 ?_
                  refine zb_go (zg_aload_n rfl) rfl ?_
                  refine zb_callv (hr (by omega)) lX6_100 (by repeat (first | assumption | exact z_up_self _ _ _ | refine (z_up_ne (by first | decide | omega)).trans ?_)) rfl rfl (by first | decide | assumption | omega) (by first | decide | omega) rfl (Nat.le_of_ble_eq_true rfl) rfl ?_
                  refine zb_go (zg_bipush 48 (by decide)) rfl ?_
                  refine zb_go (zg_bipush 57 (by decide)) rfl ?_
                  refine zb_calls (r_X6_inT hyes) lX6_87 rfl (by first | decide | omega) rfl (Nat.le_of_ble_eq_true rfl) rfl ?_
                  refine zb_br (zg_if_eq (tgt := 225) (by decide)) rfl (fun c2 => ?_) (fun c2 => ?_)
                  · exact absurd c2 (by decide)
                  · refine zb_go (zg_aload_n rfl) rfl ?_
                    refine zb_go (zg_aload_n rfl) rfl ?_
                    refine zb_go (zg_getfield fX6_107 (by first | decide | assumption | omega) (by repeat (first | assumption | exact z_up_self _ _ _ | refine (z_up_ne (by first | decide | omega)).trans ?_)) (by rfl)) rfl ?_
                    refine zb_go (zg_bipush 99 (by decide)) rfl ?_
                    refine zb_br (zg_icmp_le (tgt := 194) (by decide)) rfl (fun c3 => ?_) (fun c3 => ?_)
                    · have c3 := (nI_leI (b := 99) (by omega) (by decide)).mp c3
                      refine kX6_next_194 ?_
                      refine zb_go (zg_bipush 10 (by decide)) rfl ?_
                      refine zb_go (zg_aload_n rfl) rfl ?_
                      refine zb_go (zg_getfield fX6_107 (by first | decide | assumption | omega) (by repeat (first | assumption | exact z_up_self _ _ _ | refine (z_up_ne (by first | decide | omega)).trans ?_)) (by rfl)) rfl ?_
                      refine zb_go zg_imul rfl ?_
                      refine zb_go (zg_aload_n rfl) rfl ?_
                      refine zb_callv (hr (by omega)) lX6_100 (by repeat (first | assumption | exact z_up_self _ _ _ | refine (z_up_ne (by first | decide | omega)).trans ?_)) rfl rfl (by first | decide | assumption | omega) (by first | decide | omega) rfl (Nat.le_of_ble_eq_true rfl) rfl ?_
                      rw [if_pos hin.1, show (10 : Int32) = nI 10 from rfl, pk_mul]
                      refine zb_go zg_iadd rfl ?_
                      rw [nI_add]
                      refine zb_go (zg_bipush 48 (by decide)) rfl ?_
                      refine zb_go zg_isub rfl ?_
                      rw [show (48 : Int32) = nI 48 from rfl, pk_sub (by omega)]
                      refine zb_out ?_
                      refine back _ ?_
                      simp only [mVal, if_neg (show ¬ 99 < mVal f s j by omega)]
                      congr 1
                      omega
                    · have c3 : 99 < mVal f s j := by
                        rcases Nat.lt_or_ge 99 (mVal f s j) with w | w
                        · exact w
                        · exact absurd (nI_le (b := 99) w (by decide)) c3
                      refine zb_go (zg_aload_n rfl) rfl ?_
                      refine zb_go (zg_getfield fX6_107 (by first | decide | assumption | omega) (by repeat (first | assumption | exact z_up_self _ _ _ | refine (z_up_ne (by first | decide | omega)).trans ?_)) (by rfl)) rfl ?_
                      refine zb_end (zg_goto (tgt := 209) (by decide) ?_) rfl
                      refine back _ ?_
                      simp only [mVal, if_pos c3]
              have hyes : 48 ≤ nI u ∧ nI u ≤ 57 := (zin ku (lo := 48) (hi := 57) (by decide) (by decide)).mpr (h09.mp dg)
              refine kX6_next_152 ?_
              refine zb_go (zg_iload_n rfl) rfl ?_
              refine zb_go (zg_bipush 48 (by decide)) rfl ?_
              refine zb_go (zg_bipush 57 (by decide)) rfl ?_
              refine zb_calls (r_X6_inT hyes) lX6_87 rfl (by first | decide | omega) rfl (Nat.le_of_ble_eq_true rfl) rfl ?_
              refine zb_br (zg_if_eq (tgt := 267) (by decide)) rfl (fun c2 => ?_) (fun c2 => ?_)
              · exact absurd c2 (by decide)
              · refine zb_out ?_
                exact lp 0 (Nat.zero_le _)
            · -- another byte
              have hno : ¬ (48 ≤ nI u ∧ nI u ≤ 57) := fun q => dg (h09.mpr ((zin ku (lo := 48) (hi := 57) (by decide) (by decide)).mp q))
              simp only [if_neg dg] at hQ
              rw [show (59 : Int32) = nI 59 from rfl] at hQ
              have e59 := zu_eq (k := 59) hby (by decide)
              rw [eu] at e59
              refine kX6_next_152 ?_
              refine zb_go (zg_iload_n rfl) rfl ?_
              refine zb_go (zg_bipush 48 (by decide)) rfl ?_
              refine zb_go (zg_bipush 57 (by decide)) rfl ?_
              refine zb_calls (r_X6_inF hno) lX6_87 rfl (by first | decide | omega) rfl (Nat.le_of_ble_eq_true rfl) rfl ?_
              refine zb_br (zg_if_eq (tgt := 267) (by decide)) rfl (fun c2 => ?_) (fun c2 => ?_)
              · refine kX6_next_267 ?_
                refine zb_go (zg_aload_n rfl) rfl ?_
                refine zb_go (zg_dup rfl) rfl ?_
                refine zb_go (zg_getfield fX6_97 (by first | decide | assumption | omega) (by repeat (first | assumption | exact z_up_self _ _ _ | refine (z_up_ne (by first | decide | omega)).trans ?_)) (by rfl)) rfl ?_
                refine zb_go (zg_iconst 1 (by decide)) rfl ?_
                refine zb_go zg_iadd rfl ?_
                rw [nI_1]
                refine zb_go (zp_13 fX6_97) rfl ?_
                refine zb_go (zg_aload_n rfl) rfl ?_
                refine zb_go (zg_iload_n rfl) rfl ?_
                refine zb_go (zg_bipush 59 (by decide)) rfl ?_
                refine zb_br (zg_icmp_ne (tgt := 289) (by decide)) rfl (fun c3 => ?_) (fun c3 => ?_)
                · have c3 : ¬ f s = nI 59 := fun w => c3 (by rw [e59.mp w]; rfl)
                  simp only [if_neg c3] at hQ
                  refine kX6_next_289 ?_
                  refine zb_go (zg_bipush 8 (by decide)) rfl ?_
                  refine zb_out ?_
                  refine kX6_next_291 ?_
                  refine zb_go (zp_15 fX6_110) rfl ?_
                  refine zb_out ?_
                  refine kX6_next_294 ?_
                  refine zb_end (zg_return rfl ?_) rfl
                  exact hQ _ _ ⟨rfl, rfl⟩
                · have c3 : f s = nI 59 := e59.mpr ((nI_eq (b := 59) (by omega) (by decide)).mp c3)
                  simp only [if_pos c3] at hQ
                  refine zb_go (zg_bipush 7 (by decide)) rfl ?_
                  refine zb_end (zg_goto (tgt := 291) (by decide) ?_) rfl
                  refine kX6_next_291 ?_
                  refine zb_go (zp_15 fX6_110) rfl ?_
                  refine zb_out ?_
                  refine kX6_next_294 ?_
                  refine zb_end (zg_return rfl ?_) rfl
                  exact hQ _ _ ⟨rfl, rfl⟩
              · exact absurd rfl c2
          · exact absurd rfl c1
      · exact absurd (nI_pos' (by omega)) c0
  have lp : ∀ k, k ≤ s → i ≤ k → zGo K l 1 mX6_next 0 [(0, .ref 34)] [] 59 (z_up g 34 (mObj tr (nI len) (nI k, st, so, va, fa, to, mo, wa, fe, ev))) 0 0 Q := by
    refine z_down s (fun k hk ih hik => ?_)
    by_cases hks : k = s
    · subst hks
      refine kX6_next_0 ?_
      refine zb_go (zg_aload_n rfl) rfl ?_
      refine zb_callv (hr (by omega)) lX6_100 (by repeat (first | assumption | exact z_up_self _ _ _ | refine (z_up_ne (by first | decide | omega)).trans ?_)) rfl rfl (by first | decide | assumption | omega) (by first | decide | omega) rfl (Nat.le_of_ble_eq_true rfl) rfl ?_
      refine zb_go (zg_bipush 32 (by decide)) rfl ?_
      refine zb_br (zg_icmp_ne (tgt := 22) (by decide)) rfl (fun c0 => ?_) (fun c0 => ?_)
      · exact main
      · exfalso
        by_cases w : k < len
        · rw [if_pos w] at c0
          have c0 : zu (f k) = 32 := (nI_eq (b := 32) (by have := (zu_spec (htx k w).2).2.1; omega) (by decide)).mp c0
          exact hs3 ⟨w, (pBl_zu (htx k w).2).mpr c0⟩
        · rw [if_neg w] at c0
          exact absurd c0 (by decide)
    · have hin := hs4 k hik (by omega)
      have e32 := (pBl_zu (htx k hin.1).2).mp hin.2
      refine kX6_next_0 ?_
      refine zb_go (zg_aload_n rfl) rfl ?_
      refine zb_callv (hr (by omega)) lX6_100 (by repeat (first | assumption | exact z_up_self _ _ _ | refine (z_up_ne (by first | decide | omega)).trans ?_)) rfl rfl (by first | decide | assumption | omega) (by first | decide | omega) rfl (Nat.le_of_ble_eq_true rfl) rfl ?_
      refine zb_go (zg_bipush 32 (by decide)) rfl ?_
      refine zb_br (zg_icmp_ne (tgt := 22) (by decide)) rfl (fun c0 => ?_) (fun c0 => ?_)
      · rw [if_pos hin.1, e32] at c0
        exact absurd rfl c0
      · refine zb_go (zg_aload_n rfl) rfl ?_
        refine zb_go (zg_dup rfl) rfl ?_
        refine zb_go (zg_getfield fX6_97 (by first | decide | assumption | omega) (by repeat (first | assumption | exact z_up_self _ _ _ | refine (z_up_ne (by first | decide | omega)).trans ?_)) (by rfl)) rfl ?_
        refine zb_go (zg_iconst 1 (by decide)) rfl ?_
        refine zb_go zg_iadd rfl ?_
        rw [nI_1]
        refine zb_go (zp_13 fX6_97) rfl ?_
        refine zb_end (zg_goto (tgt := 0) (by decide) ?_) rfl
        exact ih (by omega) (by omega)
  exact lp i hs2 (Nat.le_refl _)
theorem r_X6_next {H : zH} (h34 : H 34 = mObj tr (nI len) (nI i, st, so, va, fa, to, mo, wa, fe, ev)) (h35 : H 35 = .inl (1, 200, .inl tx)) (htx : ∀ j, j < len → tx j = f j ∧ isByte (f j)) (hl : len ≤ 200) (hi : i ≤ len) : zRex K l 1 mX6_next [.ref 34] 59 H (fun v h' => v = none ∧ h' = z_up H 34 (mObj tr (nI len) (nI (kAt f len i), nI (pSk f len i), nI (kSo f len i), nI (kVa f len i), fa, to, mo, wa, fe, ev))) := by
  have := r_X6_next0 (K := K) (l := l) (g := H) (tr := tr) (st := st) (so := so) (va := va) (fa := fa) (to := to) (mo := mo) (wa := wa) (fe := fe) (ev := ev) h35 htx hl hi
  rwa [z_up_id h34] at this
end
