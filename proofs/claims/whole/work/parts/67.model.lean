/-! THE MODEL (17): readItem -/
/-- the parish that is, and the one that is being read -/
def mBoth (h : zH) (P0 P : zP) : Prop :=
  (∃ f, h 36 = .inl (0, 2, .inl f) ∧ f 0 = nI (pH P0) ∧ f 1 = nI (pH P)) ∧ (∃ f, h 37 = .inl (0, 8, .inl f) ∧ (∀ i, i < pH P0 → f i = nI (pW P0 i)) ∧ ∀ i, i < pH P → f (4 + i) = nI (pW P i)) ∧ (∃ f, h 38 = .inl (0, 2, .inl f) ∧ f 0 = nI (pR P0) ∧ f 1 = nI (pR P)) ∧
  (∃ f, h 39 = .inl (0, 12, .inl f) ∧ (∀ i, i < pR P0 → f i = nI (pHo P0 i)) ∧ ∀ i, i < pR P → f (6 + i) = nI (pHo P i)) ∧ (∃ f, h 40 = .inl (0, 12, .inl f) ∧ (∀ i, i < pR P0 → f i = nI (pBe P0 i)) ∧ ∀ i, i < pR P → f (6 + i) = nI (pBe P i)) ∧ (∃ f, h 41 = .inl (0, 12, .inl f) ∧ (∀ i, i < pR P0 → f i = nI (pBu P0 i)) ∧ ∀ i, i < pR P → f (6 + i) = nI (pBu P i)) ∧ (∃ f, h 42 = .inl (0, 12, .inl f) ∧ (∀ i, i < pR P0 → f i = nI (pIl P0 i)) ∧ ∀ i, i < pR P → f (6 + i) = nI (pIl P i)) ∧
  (∃ f, h 43 = .inl (0, 2, .inl f) ∧ f 1 = nI (pTw P)) ∧ (∃ f, h 44 = .inl (0, 2, .inl f) ∧ f 0 = nI (pTi P0) ∧ f 1 = nI (pTi P)) ∧ (∃ f, h 45 = .inl (0, 2, .inl f) ∧ f 0 = nI (pRe P0) ∧ f 1 = nI (pRe P))
theorem mBoth.par {h : zH} {P0 P : zP} (hB : mBoth h P0 P) : mPar h P0 := by
  obtain ⟨⟨f1, a1, b1, c1⟩, ⟨f2, a2, b2, c2⟩, ⟨f3, a3, b3, c3⟩, ⟨f4, a4, b4, c4⟩, ⟨f5, a5, b5, c5⟩, ⟨f6, a6, b6, c6⟩, ⟨f7, a7, b7, c7⟩, ⟨f8, a8, c8⟩, ⟨f9, a9, b9, c9⟩, ⟨f10, a10, b10, c10⟩⟩ := hB
  exact ⟨⟨f1, a1, b1⟩, ⟨f2, a2, b2⟩, ⟨f3, a3, b3⟩, ⟨f4, a4, b4⟩, ⟨f5, a5, b5⟩, ⟨f6, a6, b6⟩, ⟨f7, a7, b7⟩, ⟨f8, a8⟩, ⟨f9, a9, b9⟩, ⟨f10, a10, b10⟩⟩
theorem mBoth.same {lo hi : Nat} {h h1 : zH} {P0 P : zP} (hB : mBoth h P0 P) (s : zSame lo hi h h1) (hp : 45 < lo ∨ hi < 36) : mBoth h1 P0 P := by
  obtain ⟨⟨f1, a1, b1, c1⟩, ⟨f2, a2, b2, c2⟩, ⟨f3, a3, b3, c3⟩, ⟨f4, a4, b4, c4⟩, ⟨f5, a5, b5, c5⟩, ⟨f6, a6, b6, c6⟩, ⟨f7, a7, b7, c7⟩, ⟨f8, a8, c8⟩, ⟨f9, a9, b9, c9⟩, ⟨f10, a10, b10, c10⟩⟩ := hB
  exact ⟨⟨f1, (s _ (by omega)).trans a1, b1, c1⟩, ⟨f2, (s _ (by omega)).trans a2, b2, c2⟩, ⟨f3, (s _ (by omega)).trans a3, b3, c3⟩, ⟨f4, (s _ (by omega)).trans a4, b4, c4⟩, ⟨f5, (s _ (by omega)).trans a5, b5, c5⟩, ⟨f6, (s _ (by omega)).trans a6, b6, c6⟩, ⟨f7, (s _ (by omega)).trans a7, b7, c7⟩, ⟨f8, (s _ (by omega)).trans a8, c8⟩, ⟨f9, (s _ (by omega)).trans a9, b9, c9⟩, ⟨f10, (s _ (by omega)).trans a10, b10, c10⟩⟩
def zPF (h h' : zH) : Prop := ∀ k, k ≠ 34 → (k < 36 ∨ 45 < k) → h' k = h k
theorem zPF.rf {h : zH} : zPF h h := fun _ _ _ => rfl
theorem zPF.up {h h1 : zH} {a : Nat} {e : va_E} (s : zPF h h1) (ha : a = 34 ∨ (36 ≤ a ∧ a ≤ 45)) : zPF h (z_up h1 a e) := fun k k1 k2 => (z_up_ne (by omega)).trans (s k k1 k2)
theorem z_updO {f : Nat → Int32} {F : Nat → Nat} {o N w : Nat} (hf : ∀ i, i < N → f (o + i) = nI (F i)) : ∀ i, i < N + 1 → upd f (o + N) (nI w) (o + i) = nI (zupd F N w i) := fun i hi => by
  by_cases q : i = N
  · rw [q, pk_us]; exact (congrArg nI (if_pos rfl)).symm
  · rw [pk_un (by omega), hf i (by omega)]; exact (congrArg nI (if_neg q)).symm
theorem z_updL {f : Nat → Int32} {F : Nat → Nat} {N M k : Nat} {x : Int32} (hf : ∀ i, i < N → f i = nI (F i)) (hN : N ≤ M) (hk : M ≤ k) : ∀ i, i < N → upd f k x i = nI (F i) := fun i hi => by rw [pk_un (by omega), hf i hi]
def rItem (f : Nat → Int32) (len : Nat) (P0 P : zP) (tob : Nat → Bool) (e : Nat) (tr : Int64) (mo wa fe ev : Int32) (H : zH) (v : Option Value) (h' : zH) : Prop := v = none ∧ zPF H h' ∧ Sum.elim (fun x => (∃ a b c d t, h' 34 = mObj tr (nI len) (a, b, c, d, nI x, t, mo, wa, fe, ev)) ∧ mPar h' P0) (fun q => ∃ tol, h' 34 = mObj tr (nI len) (kX f len q.2.2 (-9) (nI tol) mo wa fe ev) ∧ mBoth h' P0 q.1 ∧ tol < 32 ∧ ∀ k, k < 5 → tol.testBit k = q.2.1 k) (pItem f len P tob (pSk f len e))
theorem pNums_1 {f : Nat → Int32} {len lo hi i : Nat} : pNums f len [(lo, hi)] i = match pNum f len lo hi i with
    | .inl x => .inl x
    | .inr (v, j) => .inr ([v], j) := by
  simp only [pNums]
  cases pNum f len lo hi i with
  | inl x => rfl
  | inr q => rfl
section
variable {K : zK} {l : Launch} {n p q r g0 k s i len e lo hi tol : Nat} {h h1 g H : zH} {x y z : Int32} {G : zS} {P P0 : zP} {f tx : Nat → Int32} {T : zT} {tr : Int64} {ty : Int32} {X : zX} {at_ st so va fa to mo wa fe ev : Int32} {tob : Nat → Bool}
set_option maxHeartbeats 8000000 in
theorem r_X6_readItem (h34 : H 34 = mObj tr (nI len) (kX f len e (-9) (nI tol) mo wa fe ev)) (h35 : H 35 = .inl (1, 200, .inl tx)) (htx : ∀ j, j < len → tx j = f j ∧ isByte (f j)) (hl : len ≤ 200) (he : e ≤ len) (hs : pSk f len e < len) (hB : mBoth H P0 P) (okp0 : okP P0) (okp : okP P) (hto : tol < 32) (hto2 : ∀ k, k < 5 → tol.testBit k = tob k) : zRex K l 4 mX6_readItem [.ref 34] 59 H (rItem f len P0 P tob e tr mo wa fe ev H) := by
  refine zRex.of (by decide) (Nat.le_of_ble_eq_true rfl) (fun Q hQ => ?_)
  obtain ⟨⟨f1, a1, b1, c1⟩, ⟨f2, a2, b2, c2⟩, ⟨f3, a3, b3, c3⟩, ⟨f4, a4, b4, c4⟩, ⟨f5, a5, b5, c5⟩, ⟨f6, a6, b6, c6⟩, ⟨f7, a7, b7, c7⟩, ⟨f8, a8, c8⟩, ⟨f9, a9, b9, c9⟩, ⟨f10, a10, b10, c10⟩⟩ := id hB
  have h1 : H 34 = .inr _ := h34
  have kH0 := okp0.1
  have kR0 := okp0.2.1
  have kH := okp.1
  have kR := okp.2.1
  have hby : ∀ j, j < len → isByte (f j) := fun j hj => (htx j hj).2
  have ks := kSo_le (f := f) (len := len) (i := e)
  have hnle : ¬ len ≤ pSk f len e := by omega
  have he1 := kAt_le (f := f) he
  -- the end, where all went well
  have finG : ∀ k H3 vs j tol2, k < 5 → H3 34 = mObj tr (nI len) (kX f len j (-9) (nI tol2) mo wa fe ev) → H3 35 = .inl (1, 200, .inl tx) → mBoth H3 P0 (pTell P k vs) → zPF H H3 → j ≤ len → tol2 < 32 → (∀ i, i < 5 → tol2.testBit i = bupd tob k i) → (pItem f len P tob (pSk f len e) = match pEnd f len j with
      | .inl x => .inl x
      | .inr e' => .inr (pTell P k vs, bupd tob k, e')) → ∀ ls, zGo K l 4 mX6_readItem 270 ((0, .ref 34) :: ls) [] 59 H3 0 0 Q := by
    intro k H3 vs j tol2 hk g34 g35 gB gF hj ht1 ht2 hp ls
    refine zg_sub [(0, .ref 34)] (fun q hq => List.mem_append_left ls hq) ?_
    obtain ⟨e7, n7⟩ := pEnd_k (f := f) hj hby
    have kj := kSo_le (f := f) (len := len) (i := j)
    have g1 : H3 34 = .inr _ := g34
    refine kX6_readItem_270 ?_
    refine zb_go (zg_aload_n rfl) rfl ?_
    refine zb_go (zg_aload_n rfl) rfl ?_
    refine zb_go (zg_getfield fX6_110 (by first | decide | assumption | omega) (by repeat (first | assumption | exact z_up_self _ _ _ | refine (z_up_ne (by first | decide | omega)).trans ?_)) (by rfl)) rfl ?_
    refine zb_go (zg_bipush 7 (by decide)) rfl ?_
    refine zb_br (zg_icmp_ne (tgt := 284) (by decide)) rfl (fun d0 => ?_) (fun d0 => ?_)
    · have d0 : ¬ kSo f len j = 7 := fun w => d0 (by rw [w]; rfl)
      rw [n7 d0] at hp
      refine kX6_readItem_284 ?_
      refine zb_go (zg_iconst 0 (by decide)) rfl ?_
      refine zb_out ?_
      refine kX6_readItem_285 ?_
      refine zb_callvx (r_X6_dueF g34) lX6_123 (by repeat (first | assumption | exact z_up_self _ _ _ | refine (z_up_ne (by first | decide | omega)).trans ?_)) rfl rfl (by first | decide | assumption | omega) (by first | decide | omega) rfl (Nat.le_of_ble_eq_true rfl) rfl ?_
      rintro v h' ⟨rfl, rfl⟩
      refine zb_go (zg_pop rfl) rfl ?_
      refine zb_end (zg_return rfl ?_) rfl
      exact hQ _ _ ⟨rfl, gF.up (Or.inl rfl), by rw [hp]; exact ⟨⟨_, _, _, _, _, z_up_self _ _ _⟩, gB.par.same (lo := 34) (hi := 34) (zSame.rf.up (by omega) (by omega)) (by omega)⟩⟩
    · have d0 : kSo f len j = 7 := (nI_eq (b := 7) (by omega) (by decide)).mp d0
      rw [e7 d0] at hp
      refine zb_go (zg_iconst 1 (by decide)) rfl ?_
      refine zb_end (zg_goto (tgt := 285) (by decide) ?_) rfl
      refine kX6_readItem_285 ?_
      refine zb_callvx (r_X6_dueT g34 g35 htx hl (kAt_le hj)) lX6_123 (by repeat (first | assumption | exact z_up_self _ _ _ | refine (z_up_ne (by first | decide | omega)).trans ?_)) rfl rfl (by first | decide | assumption | omega) (by first | decide | omega) rfl (Nat.le_of_ble_eq_true rfl) rfl ?_
      rintro v h' ⟨rfl, rfl⟩
      refine zb_go (zg_pop rfl) rfl ?_
      refine zb_end (zg_return rfl ?_) rfl
      exact hQ _ _ ⟨rfl, gF.up (Or.inl rfl), by rw [hp]; exact ⟨tol2, z_up_self _ _ _, gB.same (lo := 34) (hi := 34) (zSame.rf.up (by omega) (by omega)) (by omega), ht1, ht2⟩⟩
  -- the end behind a fault
  have finB : ∀ H3 x, (∃ a b c d t, H3 34 = mObj tr (nI len) (a, b, c, d, nI x, t, mo, wa, fe, ev)) → mPar H3 P0 → zPF H H3 → x < 1000 → pItem f len P tob (pSk f len e) = .inl x → ∀ ls, zGo K l 4 mX6_readItem 270 ((0, .ref 34) :: ls) [] 59 H3 0 0 Q := by
    intro H3 x g34 gP gF hx hp ls
    refine zg_sub [(0, .ref 34)] (fun q hq => List.mem_append_left ls hq) ?_
    obtain ⟨a, b, c, d, t, g34⟩ := g34
    have g1 : H3 34 = .inr _ := g34
    have fin : ∀ w : Int32, zGo K l 4 mX6_readItem 285 [(0, .ref 34)] [.int w, .ref 34] 59 H3 0 0 Q := by
      intro w
      refine kX6_readItem_285 ?_
      refine zb_callv (r_X6_dueBad g34 (nI_ne9 (by omega))) lX6_123 (by repeat (first | assumption | exact z_up_self _ _ _ | refine (z_up_ne (by first | decide | omega)).trans ?_)) rfl rfl (by first | decide | assumption | omega) (by first | decide | omega) rfl (Nat.le_of_ble_eq_true rfl) rfl ?_
      refine zb_go (zg_pop rfl) rfl ?_
      refine zb_end (zg_return rfl ?_) rfl
      exact hQ _ _ ⟨rfl, gF, by rw [hp]; exact ⟨⟨_, _, _, _, _, g34⟩, gP⟩⟩
    refine kX6_readItem_270 ?_
    refine zb_go (zg_aload_n rfl) rfl ?_
    refine zb_go (zg_aload_n rfl) rfl ?_
    refine zb_go (zg_getfield fX6_110 (by first | decide | assumption | omega) (by repeat (first | assumption | exact z_up_self _ _ _ | refine (z_up_ne (by first | decide | omega)).trans ?_)) (by rfl)) rfl ?_
    refine zb_go (zg_bipush 7 (by decide)) rfl ?_
    refine zb_br (zg_icmp_ne (tgt := 284) (by decide)) rfl (fun d0 => ?_) (fun d0 => ?_)
    · refine kX6_readItem_284 ?_
      refine zb_go (zg_iconst 0 (by decide)) rfl ?_
      refine zb_out ?_
      exact fin _
    · refine zb_go (zg_iconst 1 (by decide)) rfl ?_
      refine zb_end (zg_goto (tgt := 285) (by decide) ?_) rfl
      exact fin _
  -- what may not stand
  have no : pItem f len P tob (pSk f len e) = .inl (pSk f len e) → zGo K l 4 mX6_readItem 60 [(0, .ref 34), (1, .int (nI (kSo f len e)))] [.ref 34] 59 H 0 0 Q := by
    intro hp
    refine kX6_readItem_60 ?_
    refine zb_go (zg_iconst 0 (by decide)) rfl ?_
    refine zb_out ?_
    refine kX6_readItem_61 ?_
    refine zb_callvx (r_X6_dueF h34) lX6_123 (by repeat (first | assumption | exact z_up_self _ _ _ | refine (z_up_ne (by first | decide | omega)).trans ?_)) rfl rfl (by first | decide | assumption | omega) (by first | decide | omega) rfl (Nat.le_of_ble_eq_true rfl) rfl ?_
    rintro v h' ⟨rfl, rfl⟩
    refine zb_go (zg_pop rfl) rfl ?_
    refine zb_go (zg_aload_n rfl) rfl ?_
    refine zb_go (zg_getfield fX6_117 (by first | decide | assumption | omega) (by repeat (first | assumption | exact z_up_self _ _ _ | refine (z_up_ne (by first | decide | omega)).trans ?_)) (by rfl)) rfl ?_
    refine zb_go (zg_bipush (-9) (by decide)) rfl ?_
    refine zb_br (zg_icmp_eq (tgt := 75) (by decide)) rfl (fun d0 => ?_) (fun d0 => ?_)
    · exact absurd d0 (nI_ne9 (by omega))
    · refine zb_end (zg_return rfl ?_) rfl
      exact hQ _ _ ⟨rfl, zPF.rf.up (Or.inl rfl), by rw [hp]; exact ⟨⟨_, _, _, _, _, z_up_self _ _ _⟩, hB.par.same (lo := 34) (hi := 34) (zSame.rf.up (by omega) (by omega)) (by omega)⟩⟩
  have yes : ∀ k, k < 5 → kSo f len e = k → (pItem f len P tob (pSk f len e) = (match pNums f len (pBounds k) (kAt f len e) with
      | .inl x => .inl x
      | .inr (vs, j) => match pEnd f len j with
        | .inl x => .inl x
        | .inr e' => .inr (pTell P k vs, bupd tob k, e'))) → pMay P tob k = true → zGo K l 4 mX6_readItem 56 [(0, .ref 34), (1, .int (nI (kSo f len e)))] [.ref 34] 59 H 0 0 Q := by
    intro k hk ek hp hmay
    refine kX6_readItem_56 ?_
    refine zb_go (zg_iconst 1 (by decide)) rfl ?_
    refine zb_end (zg_goto (tgt := 61) (by decide) ?_) rfl
    refine kX6_readItem_61 ?_
    refine zb_callvx (r_X6_dueT h34 h35 htx hl he1) lX6_123 (by repeat (first | assumption | exact z_up_self _ _ _ | refine (z_up_ne (by first | decide | omega)).trans ?_)) rfl rfl (by first | decide | assumption | omega) (by first | decide | omega) rfl (Nat.le_of_ble_eq_true rfl) rfl ?_
    rintro v h' ⟨rfl, rfl⟩
    refine zb_go (zg_pop rfl) rfl ?_
    refine zb_go (zg_aload_n rfl) rfl ?_
    refine zb_go (zg_getfield fX6_117 (by first | decide | assumption | omega) (by repeat (first | assumption | exact z_up_self _ _ _ | refine (z_up_ne (by first | decide | omega)).trans ?_)) (by rfl)) rfl ?_
    refine zb_go (zg_bipush (-9) (by decide)) rfl ?_
    refine zb_br (zg_icmp_eq (tgt := 75) (by decide)) rfl (fun d0 => ?_) (fun d0 => ?_)
    · have es : (1 : Int32) <<< (nI k &&& 31) = nI (1 <<< k) := z_shl (a := 1) (by omega)
      rw [ek]
      refine kX6_readItem_75 ?_
      refine zb_go (zg_aload_n rfl) rfl ?_
      refine zb_go (zg_dup rfl) rfl ?_
      refine zb_go (zg_getfield fX6_127 (by first | decide | assumption | omega) (by repeat (first | assumption | exact z_up_self _ _ _ | refine (z_up_ne (by first | decide | omega)).trans ?_)) (by rfl)) rfl ?_
      refine zb_go (zg_iconst 1 (by decide)) rfl ?_
      refine zb_go (zg_iload_n rfl) rfl ?_
      refine zb_go zg_ishl rfl ?_
      rw [es]
      refine zb_go zg_ior rfl ?_
      rw [z_or]
      obtain ⟨tol2, et2⟩ : ∃ tol2, tol ||| 1 <<< k = tol2 := ⟨_, rfl⟩
      have ht1 : tol2 < 32 := by
        rw [← et2]
        refine Nat.or_lt_two_pow (n := 5) hto ?_
        rw [Nat.shiftLeft_eq, Nat.one_mul]
        exact Nat.pow_lt_pow_right (by decide) hk
      have ht2 : ∀ i, i < 5 → tol2.testBit i = bupd tob k i := fun i hi => by
        rw [← et2, Nat.testBit_or, z_one, hto2 i hi]
        unfold bupd
        by_cases w : i = k
        · rw [if_pos w, decide_eq_true w, Bool.or_true]
        · rw [if_neg w, decide_eq_false w, Bool.or_false]
      rw [et2]
      refine zb_go (zp_18 fX6_127) rfl ?_
      refine zb_go (zg_iload_n rfl) rfl ?_
      obtain ⟨H2, eH2⟩ : ∃ H2, H2 = z_up H 34 (mObj tr (nI len) (kX f len (kAt f len e) (-9) (nI tol2) mo wa fe ev)) := ⟨_, rfl⟩
      change zGb K l 4 mX6_readItem _ _ _ _ 59 (z_up H 34 (mObj tr (nI len) (kX f len (kAt f len e) (-9) (nI tol2) mo wa fe ev))) 0 0 Q
      rw [← eH2]
      have m34 : H2 34 = mObj tr (nI len) (kX f len (kAt f len e) (-9) (nI tol2) mo wa fe ev) := by rw [eH2]; exact z_up_self _ _ _
      have m34' : H2 34 = .inr _ := m34
      have up : ∀ {j : Nat} {E : va_E}, j ≠ 34 → H j = E → H2 j = E := fun hj hE => by rw [eH2]; exact (z_up_ne hj).trans hE
      have m35 := up (by decide) h35
      have m36 := up (by decide) a1
      have m37 := up (by decide) a2
      have m38 := up (by decide) a3
      have m39 := up (by decide) a4
      have m40 := up (by decide) a5
      have m41 := up (by decide) a6
      have m42 := up (by decide) a7
      have m43 := up (by decide) a8
      have m44 := up (by decide) a9
      have m45 := up (by decide) a10
      have mF : zPF H H2 := by rw [eH2]; exact zPF.rf.up (Or.inl rfl)
      clear up eH2
      have kv := fun j (hj : j ≤ len) => kVa_le (f := f) hj hby
      rcases (show k = 0 ∨ k = 1 ∨ k = 2 ∨ k = 3 ∨ k = 4 by omega) with rfl | rfl | rfl | rfl | rfl
      · -- hour
        have hH : pH P < 4 := by simpa [pMay] using hmay
        have i8 : zIx (nI (4 + pH P)) 8 (4 + pH P) := zIx.nI (by omega) (by decide)
        have e4 : (4 : Int32) + nI (pH P) = nI (4 + pH P) := nI_add 4 _
        have hp1 : pNums f len (pBounds 0) (kAt f len e) = _ := pNums_1 (lo := 1) (hi := 3)
        rw [hp1] at hp
        refine zb_end (len := 32) (zg_tableIn 32 120 (by decide) (by decide) (by rfl) (by decide) ?_) rfl
        refine kX6_readItem_120 ?_
        refine zb_go (zg_aload_n rfl) rfl ?_
        refine zb_go (zg_getfield fX6_17 (by first | decide | assumption | omega) (by repeat (first | assumption | exact z_up_self _ _ _ | refine (z_up_ne (by first | decide | omega)).trans ?_)) (by rfl)) rfl ?_
        refine zb_go (zg_iconst 4 (by decide)) rfl ?_
        refine zb_go (zg_aload_n rfl) rfl ?_
        refine zb_go (zg_getfield fX6_13 (by first | decide | assumption | omega) (by repeat (first | assumption | exact z_up_self _ _ _ | refine (z_up_ne (by first | decide | omega)).trans ?_)) (by rfl)) rfl ?_
        refine zb_go (zg_iconst 1 (by decide)) rfl ?_
        refine zb_go (zi_iaload (by first | decide | assumption | omega) (by repeat (first | assumption | exact z_up_self _ _ _ | refine (z_up_ne (by first | decide | omega)).trans ?_)) (by first | assumption | exact zIx.nI (by omega) (by decide) | exact ⟨by decide, by decide⟩ | exact zIx.nI (k := 0) (by decide) (by decide) | exact zIx.nI (k := 1) (by decide) (by decide) | exact zIx.nI (k := 2) (by decide) (by decide) | exact zIx.nI (k := 3) (by decide) (by decide))) rfl ?_
        rw [c1]
        refine zb_go zg_iadd rfl ?_
        rw [e4]
        refine zb_go (zg_aload_n rfl) rfl ?_
        refine zb_go (zg_iconst 1 (by decide)) rfl ?_
        refine zb_go (zg_iconst 3 (by decide)) rfl ?_
        refine zb_callvx (r_X6_number (lo := 1) (hi := 3) m34 m35 htx hl he1 (by decide) (by decide)) lX6_130 (by repeat (first | assumption | exact z_up_self _ _ _ | refine (z_up_ne (by first | decide | omega)).trans ?_)) rfl rfl (by first | decide | assumption | omega) (by first | decide | omega) rfl (Nat.le_of_ble_eq_true rfl) rfl ?_
        rintro v h' ⟨rfl, hv⟩
        rcases hv with ⟨hv, rfl⟩ | ⟨hv, rfl⟩
        · rw [hv] at hp
          refine zb_go (zi_iastore (by first | decide | assumption | omega) (by repeat (first | assumption | exact z_up_self _ _ _ | refine (z_up_ne (by first | decide | omega)).trans ?_)) i8) rfl ?_
          refine zb_go (zg_aload_n rfl) rfl ?_
          refine zb_go (zg_getfield fX6_13 (by first | decide | assumption | omega) (by repeat (first | assumption | exact z_up_self _ _ _ | refine (z_up_ne (by first | decide | omega)).trans ?_)) (by rfl)) rfl ?_
          refine zb_go (zg_iconst 1 (by decide)) rfl ?_
          refine zb_go (zg_dup2 rfl rfl) rfl ?_
          refine zb_go (zi_iaload (by first | decide | assumption | omega) (by repeat (first | assumption | exact z_up_self _ _ _ | refine (z_up_ne (by first | decide | omega)).trans ?_)) (by first | assumption | exact zIx.nI (by omega) (by decide) | exact ⟨by decide, by decide⟩ | exact zIx.nI (k := 0) (by decide) (by decide) | exact zIx.nI (k := 1) (by decide) (by decide) | exact zIx.nI (k := 2) (by decide) (by decide) | exact zIx.nI (k := 3) (by decide) (by decide))) rfl ?_
          rw [c1]
          refine zb_go (zg_iconst 1 (by decide)) rfl ?_
          refine zb_go zg_iadd rfl ?_
          refine zb_go (zi_iastore (by first | decide | assumption | omega) (by repeat (first | assumption | exact z_up_self _ _ _ | refine (z_up_ne (by first | decide | omega)).trans ?_)) (by first | assumption | exact zIx.nI (by omega) (by decide) | exact ⟨by decide, by decide⟩ | exact zIx.nI (k := 0) (by decide) (by decide) | exact zIx.nI (k := 1) (by decide) (by decide) | exact zIx.nI (k := 2) (by decide) (by decide) | exact zIx.nI (k := 3) (by decide) (by decide))) rfl ?_
          refine zb_end (zg_goto (tgt := 270) (by decide) ?_) rfl
          rw [nI_1]
          refine finG 0 _ [kVa f len (kAt f len e)] (kAt f len (kAt f len e)) tol2 (by decide) (by repeat (first | assumption | exact z_up_self _ _ _ | refine (z_up_ne (by decide)).trans ?_)) (by repeat (first | assumption | exact z_up_self _ _ _ | refine (z_up_ne (by decide)).trans ?_)) ⟨⟨upd f1 1 (nI (pH P + 1)), (by repeat (first | assumption | exact z_up_self _ _ _ | refine (z_up_ne (by decide)).trans ?_)), b1, pk_us⟩, ⟨upd f2 (4 + pH P) (nI (kVa f len (kAt f len e))), (by repeat (first | assumption | exact z_up_self _ _ _ | refine (z_up_ne (by decide)).trans ?_)), z_updL b2 kH0 (by omega), z_updO c2⟩, ⟨f3, (by repeat (first | assumption | exact z_up_self _ _ _ | refine (z_up_ne (by decide)).trans ?_)), b3, c3⟩, ⟨f4, (by repeat (first | assumption | exact z_up_self _ _ _ | refine (z_up_ne (by decide)).trans ?_)), b4, c4⟩, ⟨f5, (by repeat (first | assumption | exact z_up_self _ _ _ | refine (z_up_ne (by decide)).trans ?_)), b5, c5⟩, ⟨f6, (by repeat (first | assumption | exact z_up_self _ _ _ | refine (z_up_ne (by decide)).trans ?_)), b6, c6⟩, ⟨f7, (by repeat (first | assumption | exact z_up_self _ _ _ | refine (z_up_ne (by decide)).trans ?_)), b7, c7⟩, ⟨f8, (by repeat (first | assumption | exact z_up_self _ _ _ | refine (z_up_ne (by decide)).trans ?_)), c8⟩, ⟨f9, (by repeat (first | assumption | exact z_up_self _ _ _ | refine (z_up_ne (by decide)).trans ?_)), b9, c9⟩, ⟨f10, (by repeat (first | assumption | exact z_up_self _ _ _ | refine (z_up_ne (by decide)).trans ?_)), b10, c10⟩⟩ (((mF.up (Or.inl rfl)).up (Or.inr ⟨by decide, by decide⟩)).up (Or.inr ⟨by decide, by decide⟩)) (kAt_le he1) ht1 ht2 hp [(1, _)]
        · rw [hv] at hp
          refine zb_go (zi_iastore (by first | decide | assumption | omega) (by repeat (first | assumption | exact z_up_self _ _ _ | refine (z_up_ne (by first | decide | omega)).trans ?_)) i8) rfl ?_
          refine zb_go (zg_aload_n rfl) rfl ?_
          refine zb_go (zg_getfield fX6_13 (by first | decide | assumption | omega) (by repeat (first | assumption | exact z_up_self _ _ _ | refine (z_up_ne (by first | decide | omega)).trans ?_)) (by rfl)) rfl ?_
          refine zb_go (zg_iconst 1 (by decide)) rfl ?_
          refine zb_go (zg_dup2 rfl rfl) rfl ?_
          refine zb_go (zi_iaload (by first | decide | assumption | omega) (by repeat (first | assumption | exact z_up_self _ _ _ | refine (z_up_ne (by first | decide | omega)).trans ?_)) (by first | assumption | exact zIx.nI (by omega) (by decide) | exact ⟨by decide, by decide⟩ | exact zIx.nI (k := 0) (by decide) (by decide) | exact zIx.nI (k := 1) (by decide) (by decide) | exact zIx.nI (k := 2) (by decide) (by decide) | exact zIx.nI (k := 3) (by decide) (by decide))) rfl ?_
          rw [c1]
          refine zb_go (zg_iconst 1 (by decide)) rfl ?_
          refine zb_go zg_iadd rfl ?_
          refine zb_go (zi_iastore (by first | decide | assumption | omega) (by repeat (first | assumption | exact z_up_self _ _ _ | refine (z_up_ne (by first | decide | omega)).trans ?_)) (by first | assumption | exact zIx.nI (by omega) (by decide) | exact ⟨by decide, by decide⟩ | exact zIx.nI (k := 0) (by decide) (by decide) | exact zIx.nI (k := 1) (by decide) (by decide) | exact zIx.nI (k := 2) (by decide) (by decide) | exact zIx.nI (k := 3) (by decide) (by decide))) rfl ?_
          refine zb_end (zg_goto (tgt := 270) (by decide) ?_) rfl
          rw [nI_1]
          have hsk := pSk_le (f := f) he1
          refine finB _ (pSk f len (kAt f len e)) ⟨_, _, _, _, _, (by repeat (first | assumption | exact z_up_self _ _ _ | refine (z_up_ne (by decide)).trans ?_))⟩ ⟨⟨upd f1 1 (nI (pH P + 1)), (by repeat (first | assumption | exact z_up_self _ _ _ | refine (z_up_ne (by decide)).trans ?_)), b1⟩, ⟨upd f2 (4 + pH P) (nI (kVa f len (kAt f len e))), (by repeat (first | assumption | exact z_up_self _ _ _ | refine (z_up_ne (by decide)).trans ?_)), z_updL b2 kH0 (by omega)⟩, ⟨f3, (by repeat (first | assumption | exact z_up_self _ _ _ | refine (z_up_ne (by decide)).trans ?_)), b3⟩, ⟨f4, (by repeat (first | assumption | exact z_up_self _ _ _ | refine (z_up_ne (by decide)).trans ?_)), b4⟩, ⟨f5, (by repeat (first | assumption | exact z_up_self _ _ _ | refine (z_up_ne (by decide)).trans ?_)), b5⟩, ⟨f6, (by repeat (first | assumption | exact z_up_self _ _ _ | refine (z_up_ne (by decide)).trans ?_)), b6⟩, ⟨f7, (by repeat (first | assumption | exact z_up_self _ _ _ | refine (z_up_ne (by decide)).trans ?_)), b7⟩, ⟨f8, (by repeat (first | assumption | exact z_up_self _ _ _ | refine (z_up_ne (by decide)).trans ?_))⟩, ⟨f9, (by repeat (first | assumption | exact z_up_self _ _ _ | refine (z_up_ne (by decide)).trans ?_)), b9⟩, ⟨f10, (by repeat (first | assumption | exact z_up_self _ _ _ | refine (z_up_ne (by decide)).trans ?_)), b10⟩⟩ (((mF.up (Or.inl rfl)).up (Or.inr ⟨by decide, by decide⟩)).up (Or.inr ⟨by decide, by decide⟩)) (by omega) hp [(1, _)]
      · -- ringer
        have hR : pR P < 6 := by simpa [pMay] using hmay
        have i12 : zIx (nI (6 + pR P)) 12 (6 + pR P) := zIx.nI (by omega) (by decide)
        have e6 : (6 : Int32) + nI (pR P) = nI (6 + pR P) := nI_add 6 _
        have j1 := he1
        have j2 := kAt_le (f := f) j1
        have j3 := kAt_le (f := f) j2
        have j4 := kAt_le (f := f) j3
        have j5 := kAt_le (f := f) j4
        have s1 := pSk_le (f := f) j1
        have s2 := pSk_le (f := f) j2
        have s3 := pSk_le (f := f) j3
        have s4 := pSk_le (f := f) j4
        have hp1 : pNums f len (pBounds 1) (kAt f len e) = pNums f len [(0, 60), (0, 7), (0, 15), (0, 9)] (kAt f len e) := rfl
        rw [hp1] at hp
        simp only [pNums] at hp
        refine zb_end (len := 32) (zg_tableIn 64 152 (by decide) (by decide) (by rfl) (by decide) ?_) rfl
        refine kX6_readItem_152 ?_
        refine zb_go (zg_bipush 6 (by decide)) rfl ?_
        refine zb_go (zg_aload_n rfl) rfl ?_
        refine zb_go (zg_getfield fX6_20 (by first | decide | assumption | omega) (by repeat (first | assumption | exact z_up_self _ _ _ | refine (z_up_ne (by first | decide | omega)).trans ?_)) (by rfl)) rfl ?_
        refine zb_go (zg_iconst 1 (by decide)) rfl ?_
        refine zb_go (zi_iaload (by first | decide | assumption | omega) (by repeat (first | assumption | exact z_up_self _ _ _ | refine (z_up_ne (by first | decide | omega)).trans ?_)) (by first | assumption | exact zIx.nI (by omega) (by decide) | exact ⟨by decide, by decide⟩ | exact zIx.nI (k := 0) (by decide) (by decide) | exact zIx.nI (k := 1) (by decide) (by decide) | exact zIx.nI (k := 2) (by decide) (by decide) | exact zIx.nI (k := 3) (by decide) (by decide))) rfl ?_
        rw [c3]
        refine zb_go zg_iadd rfl ?_
        rw [e6]
        refine zb_go (zg_istore_n (by decide)) rfl ?_
        refine zb_go (zg_aload_n rfl) rfl ?_
        refine zb_go (zg_getfield fX6_23 (by first | decide | assumption | omega) (by repeat (first | assumption | exact z_up_self _ _ _ | refine (z_up_ne (by first | decide | omega)).trans ?_)) (by rfl)) rfl ?_
        refine zb_go (zg_iload_n rfl) rfl ?_
        refine zb_go (zg_aload_n rfl) rfl ?_
        refine zb_go (zg_iconst 0 (by decide)) rfl ?_
        refine zb_go (zg_bipush 60 (by decide)) rfl ?_
        refine zb_callvx (r_X6_number (lo := 0) (hi := 60) m34 m35 htx hl j1 (by decide) (by decide)) lX6_130 (by repeat (first | assumption | exact z_up_self _ _ _ | refine (z_up_ne (by first | decide | omega)).trans ?_)) rfl rfl (by first | decide | assumption | omega) (by first | decide | omega) rfl (Nat.le_of_ble_eq_true rfl) rfl ?_
        rintro v h' ⟨rfl, hv⟩
        rcases hv with ⟨hv, rfl⟩ | ⟨hv, rfl⟩
        · rw [hv] at hp
          simp only at hp
          refine zb_go (zi_iastore (by first | decide | assumption | omega) (by repeat (first | assumption | exact z_up_self _ _ _ | refine (z_up_ne (by first | decide | omega)).trans ?_)) i12) rfl ?_
          refine zb_go (zg_aload_n rfl) rfl ?_
          refine zb_go (zg_getfield fX6_26 (by first | decide | assumption | omega) (by repeat (first | assumption | exact z_up_self _ _ _ | refine (z_up_ne (by first | decide | omega)).trans ?_)) (by rfl)) rfl ?_
          refine zb_go (zg_iload_n rfl) rfl ?_
          refine zb_go (zg_aload_n rfl) rfl ?_
          refine zb_go (zg_iconst 0 (by decide)) rfl ?_
          refine zb_go (zg_bipush 7 (by decide)) rfl ?_
          refine zb_callvx (r_X6_number (lo := 0) (hi := 7) (tr := tr) (to := nI tol2) (mo := mo) (wa := wa) (fe := fe) (ev := ev) (e := kAt f len (kAt f len e)) (by repeat (first | assumption | exact z_up_self _ _ _ | refine (z_up_ne (by decide)).trans ?_)) (by repeat (first | assumption | exact z_up_self _ _ _ | refine (z_up_ne (by decide)).trans ?_)) htx hl j2 (by decide) (by decide)) lX6_130 (by repeat (first | assumption | exact z_up_self _ _ _ | refine (z_up_ne (by first | decide | omega)).trans ?_)) rfl rfl (by first | decide | assumption | omega) (by first | decide | omega) rfl (Nat.le_of_ble_eq_true rfl) rfl ?_
          rintro v h' ⟨rfl, hv⟩
          rcases hv with ⟨hv, rfl⟩ | ⟨hv, rfl⟩
          · rw [hv] at hp
            simp only at hp
            refine zb_go (zi_iastore (by first | decide | assumption | omega) (by repeat (first | assumption | exact z_up_self _ _ _ | refine (z_up_ne (by first | decide | omega)).trans ?_)) i12) rfl ?_
            refine zb_go (zg_aload_n rfl) rfl ?_
            refine zb_go (zg_getfield fX6_29 (by first | decide | assumption | omega) (by repeat (first | assumption | exact z_up_self _ _ _ | refine (z_up_ne (by first | decide | omega)).trans ?_)) (by rfl)) rfl ?_
            refine zb_go (zg_iload_n rfl) rfl ?_
            refine zb_go (zg_aload_n rfl) rfl ?_
            refine zb_go (zg_iconst 0 (by decide)) rfl ?_
            refine zb_go (zg_bipush 15 (by decide)) rfl ?_
            refine zb_callvx (r_X6_number (lo := 0) (hi := 15) (tr := tr) (to := nI tol2) (mo := mo) (wa := wa) (fe := fe) (ev := ev) (e := kAt f len (kAt f len (kAt f len e))) (by repeat (first | assumption | exact z_up_self _ _ _ | refine (z_up_ne (by decide)).trans ?_)) (by repeat (first | assumption | exact z_up_self _ _ _ | refine (z_up_ne (by decide)).trans ?_)) htx hl j3 (by decide) (by decide)) lX6_130 (by repeat (first | assumption | exact z_up_self _ _ _ | refine (z_up_ne (by first | decide | omega)).trans ?_)) rfl rfl (by first | decide | assumption | omega) (by first | decide | omega) rfl (Nat.le_of_ble_eq_true rfl) rfl ?_
            rintro v h' ⟨rfl, hv⟩
            rcases hv with ⟨hv, rfl⟩ | ⟨hv, rfl⟩
            · rw [hv] at hp
              simp only at hp
              refine zb_go (zi_iastore (by first | decide | assumption | omega) (by repeat (first | assumption | exact z_up_self _ _ _ | refine (z_up_ne (by first | decide | omega)).trans ?_)) i12) rfl ?_
              refine zb_go (zg_aload_n rfl) rfl ?_
              refine zb_go (zg_getfield fX6_32 (by first | decide | assumption | omega) (by repeat (first | assumption | exact z_up_self _ _ _ | refine (z_up_ne (by first | decide | omega)).trans ?_)) (by rfl)) rfl ?_
              refine zb_go (zg_iload_n rfl) rfl ?_
              refine zb_go (zg_aload_n rfl) rfl ?_
              refine zb_go (zg_iconst 0 (by decide)) rfl ?_
              refine zb_go (zg_bipush 9 (by decide)) rfl ?_
              refine zb_callvx (r_X6_number (lo := 0) (hi := 9) (tr := tr) (to := nI tol2) (mo := mo) (wa := wa) (fe := fe) (ev := ev) (e := kAt f len (kAt f len (kAt f len (kAt f len e)))) (by repeat (first | assumption | exact z_up_self _ _ _ | refine (z_up_ne (by decide)).trans ?_)) (by repeat (first | assumption | exact z_up_self _ _ _ | refine (z_up_ne (by decide)).trans ?_)) htx hl j4 (by decide) (by decide)) lX6_130 (by repeat (first | assumption | exact z_up_self _ _ _ | refine (z_up_ne (by first | decide | omega)).trans ?_)) rfl rfl (by first | decide | assumption | omega) (by first | decide | omega) rfl (Nat.le_of_ble_eq_true rfl) rfl ?_
              rintro v h' ⟨rfl, hv⟩
              rcases hv with ⟨hv, rfl⟩ | ⟨hv, rfl⟩
              · rw [hv] at hp
                simp only at hp
                refine zb_go (zi_iastore (by first | decide | assumption | omega) (by repeat (first | assumption | exact z_up_self _ _ _ | refine (z_up_ne (by first | decide | omega)).trans ?_)) i12) rfl ?_
                refine zb_go (zg_aload_n rfl) rfl ?_
                refine zb_go (zg_getfield fX6_20 (by first | decide | assumption | omega) (by repeat (first | assumption | exact z_up_self _ _ _ | refine (z_up_ne (by first | decide | omega)).trans ?_)) (by rfl)) rfl ?_
                refine zb_go (zg_iconst 1 (by decide)) rfl ?_
                refine zb_go (zg_dup2 rfl rfl) rfl ?_
                refine zb_go (zi_iaload (by first | decide | assumption | omega) (by repeat (first | assumption | exact z_up_self _ _ _ | refine (z_up_ne (by first | decide | omega)).trans ?_)) (by first | assumption | exact zIx.nI (by omega) (by decide) | exact ⟨by decide, by decide⟩ | exact zIx.nI (k := 0) (by decide) (by decide) | exact zIx.nI (k := 1) (by decide) (by decide) | exact zIx.nI (k := 2) (by decide) (by decide) | exact zIx.nI (k := 3) (by decide) (by decide))) rfl ?_
                rw [c3]
                refine zb_go (zg_iconst 1 (by decide)) rfl ?_
                refine zb_go zg_iadd rfl ?_
                refine zb_go (zi_iastore (by first | decide | assumption | omega) (by repeat (first | assumption | exact z_up_self _ _ _ | refine (z_up_ne (by first | decide | omega)).trans ?_)) (by first | assumption | exact zIx.nI (by omega) (by decide) | exact ⟨by decide, by decide⟩ | exact zIx.nI (k := 0) (by decide) (by decide) | exact zIx.nI (k := 1) (by decide) (by decide) | exact zIx.nI (k := 2) (by decide) (by decide) | exact zIx.nI (k := 3) (by decide) (by decide))) rfl ?_
                refine zb_end (zg_goto (tgt := 270) (by decide) ?_) rfl
                rw [nI_1]
                exact finG 1 _ [kVa f len (kAt f len e), kVa f len (kAt f len (kAt f len e)), kVa f len (kAt f len (kAt f len (kAt f len e))), kVa f len (kAt f len (kAt f len (kAt f len (kAt f len e))))] (kAt f len (kAt f len (kAt f len (kAt f len (kAt f len e))))) tol2 (by decide) (by repeat (first | assumption | exact z_up_self _ _ _ | refine (z_up_ne (by decide)).trans ?_)) (by repeat (first | assumption | exact z_up_self _ _ _ | refine (z_up_ne (by decide)).trans ?_)) ⟨⟨f1, (by repeat (first | assumption | exact z_up_self _ _ _ | refine (z_up_ne (by decide)).trans ?_)), b1, c1⟩, ⟨f2, (by repeat (first | assumption | exact z_up_self _ _ _ | refine (z_up_ne (by decide)).trans ?_)), b2, c2⟩, ⟨upd f3 1 (nI (pR P + 1)), (by repeat (first | assumption | exact z_up_self _ _ _ | refine (z_up_ne (by decide)).trans ?_)), b3, pk_us⟩, ⟨upd f4 (6 + pR P) (nI (kVa f len (kAt f len e))), (by repeat (first | assumption | exact z_up_self _ _ _ | refine (z_up_ne (by decide)).trans ?_)), z_updL b4 kR0 (by omega), z_updO c4⟩, ⟨upd f5 (6 + pR P) (nI (kVa f len (kAt f len (kAt f len e)))), (by repeat (first | assumption | exact z_up_self _ _ _ | refine (z_up_ne (by decide)).trans ?_)), z_updL b5 kR0 (by omega), z_updO c5⟩, ⟨upd f6 (6 + pR P) (nI (kVa f len (kAt f len (kAt f len (kAt f len e))))), (by repeat (first | assumption | exact z_up_self _ _ _ | refine (z_up_ne (by decide)).trans ?_)), z_updL b6 kR0 (by omega), z_updO c6⟩, ⟨upd f7 (6 + pR P) (nI (kVa f len (kAt f len (kAt f len (kAt f len (kAt f len e)))))), (by repeat (first | assumption | exact z_up_self _ _ _ | refine (z_up_ne (by decide)).trans ?_)), z_updL b7 kR0 (by omega), z_updO c7⟩, ⟨f8, (by repeat (first | assumption | exact z_up_self _ _ _ | refine (z_up_ne (by decide)).trans ?_)), c8⟩, ⟨f9, (by repeat (first | assumption | exact z_up_self _ _ _ | refine (z_up_ne (by decide)).trans ?_)), b9, c9⟩, ⟨f10, (by repeat (first | assumption | exact z_up_self _ _ _ | refine (z_up_ne (by decide)).trans ?_)), b10, c10⟩⟩ (((((((((mF.up (Or.inl rfl)).up (Or.inr ⟨by decide, by decide⟩)).up (Or.inl rfl)).up (Or.inr ⟨by decide, by decide⟩)).up (Or.inl rfl)).up (Or.inr ⟨by decide, by decide⟩)).up (Or.inl rfl)).up (Or.inr ⟨by decide, by decide⟩)).up (Or.inr ⟨by decide, by decide⟩)) j5 ht1 ht2 hp [(1, _), (2, _)]
              · rw [hv] at hp
                simp only at hp
                refine zb_go (zi_iastore (by first | decide | assumption | omega) (by repeat (first | assumption | exact z_up_self _ _ _ | refine (z_up_ne (by first | decide | omega)).trans ?_)) i12) rfl ?_
                refine zb_go (zg_aload_n rfl) rfl ?_
                refine zb_go (zg_getfield fX6_20 (by first | decide | assumption | omega) (by repeat (first | assumption | exact z_up_self _ _ _ | refine (z_up_ne (by first | decide | omega)).trans ?_)) (by rfl)) rfl ?_
                refine zb_go (zg_iconst 1 (by decide)) rfl ?_
                refine zb_go (zg_dup2 rfl rfl) rfl ?_
                refine zb_go (zi_iaload (by first | decide | assumption | omega) (by repeat (first | assumption | exact z_up_self _ _ _ | refine (z_up_ne (by first | decide | omega)).trans ?_)) (by first | assumption | exact zIx.nI (by omega) (by decide) | exact ⟨by decide, by decide⟩ | exact zIx.nI (k := 0) (by decide) (by decide) | exact zIx.nI (k := 1) (by decide) (by decide) | exact zIx.nI (k := 2) (by decide) (by decide) | exact zIx.nI (k := 3) (by decide) (by decide))) rfl ?_
                rw [c3]
                refine zb_go (zg_iconst 1 (by decide)) rfl ?_
                refine zb_go zg_iadd rfl ?_
                refine zb_go (zi_iastore (by first | decide | assumption | omega) (by repeat (first | assumption | exact z_up_self _ _ _ | refine (z_up_ne (by first | decide | omega)).trans ?_)) (by first | assumption | exact zIx.nI (by omega) (by decide) | exact ⟨by decide, by decide⟩ | exact zIx.nI (k := 0) (by decide) (by decide) | exact zIx.nI (k := 1) (by decide) (by decide) | exact zIx.nI (k := 2) (by decide) (by decide) | exact zIx.nI (k := 3) (by decide) (by decide))) rfl ?_
                refine zb_end (zg_goto (tgt := 270) (by decide) ?_) rfl
                rw [nI_1]
                exact finB _ (pSk f len (kAt f len (kAt f len (kAt f len (kAt f len e))))) ⟨_, _, _, _, _, (by repeat (first | assumption | exact z_up_self _ _ _ | refine (z_up_ne (by decide)).trans ?_))⟩ ⟨⟨f1, (by repeat (first | assumption | exact z_up_self _ _ _ | refine (z_up_ne (by decide)).trans ?_)), b1⟩, ⟨f2, (by repeat (first | assumption | exact z_up_self _ _ _ | refine (z_up_ne (by decide)).trans ?_)), b2⟩, ⟨upd f3 1 (nI (pR P + 1)), (by repeat (first | assumption | exact z_up_self _ _ _ | refine (z_up_ne (by decide)).trans ?_)), b3⟩, ⟨upd f4 (6 + pR P) (nI (kVa f len (kAt f len e))), (by repeat (first | assumption | exact z_up_self _ _ _ | refine (z_up_ne (by decide)).trans ?_)), z_updL b4 kR0 (by omega)⟩, ⟨upd f5 (6 + pR P) (nI (kVa f len (kAt f len (kAt f len e)))), (by repeat (first | assumption | exact z_up_self _ _ _ | refine (z_up_ne (by decide)).trans ?_)), z_updL b5 kR0 (by omega)⟩, ⟨upd f6 (6 + pR P) (nI (kVa f len (kAt f len (kAt f len (kAt f len e))))), (by repeat (first | assumption | exact z_up_self _ _ _ | refine (z_up_ne (by decide)).trans ?_)), z_updL b6 kR0 (by omega)⟩, ⟨upd f7 (6 + pR P) (nI (kVa f len (kAt f len (kAt f len (kAt f len (kAt f len e)))))), (by repeat (first | assumption | exact z_up_self _ _ _ | refine (z_up_ne (by decide)).trans ?_)), z_updL b7 kR0 (by omega)⟩, ⟨f8, (by repeat (first | assumption | exact z_up_self _ _ _ | refine (z_up_ne (by decide)).trans ?_))⟩, ⟨f9, (by repeat (first | assumption | exact z_up_self _ _ _ | refine (z_up_ne (by decide)).trans ?_)), b9⟩, ⟨f10, (by repeat (first | assumption | exact z_up_self _ _ _ | refine (z_up_ne (by decide)).trans ?_)), b10⟩⟩ (((((((((mF.up (Or.inl rfl)).up (Or.inr ⟨by decide, by decide⟩)).up (Or.inl rfl)).up (Or.inr ⟨by decide, by decide⟩)).up (Or.inl rfl)).up (Or.inr ⟨by decide, by decide⟩)).up (Or.inl rfl)).up (Or.inr ⟨by decide, by decide⟩)).up (Or.inr ⟨by decide, by decide⟩)) (by omega) hp [(1, _), (2, _)]
            · rw [hv] at hp
              simp only at hp
              refine zb_go (zi_iastore (by first | decide | assumption | omega) (by repeat (first | assumption | exact z_up_self _ _ _ | refine (z_up_ne (by first | decide | omega)).trans ?_)) i12) rfl ?_
              refine zb_go (zg_aload_n rfl) rfl ?_
              refine zb_go (zg_getfield fX6_32 (by first | decide | assumption | omega) (by repeat (first | assumption | exact z_up_self _ _ _ | refine (z_up_ne (by first | decide | omega)).trans ?_)) (by rfl)) rfl ?_
              refine zb_go (zg_iload_n rfl) rfl ?_
              refine zb_go (zg_aload_n rfl) rfl ?_
              refine zb_go (zg_iconst 0 (by decide)) rfl ?_
              refine zb_go (zg_bipush 9 (by decide)) rfl ?_
              refine zb_callv (r_X6_numberBad (tr := tr) (ty := nI len) (va := nI (kVa f len (kAt f len (kAt f len (kAt f len e))))) (fa := nI (pSk f len (kAt f len (kAt f len (kAt f len e))))) (by repeat (first | assumption | exact z_up_self _ _ _ | refine (z_up_ne (by decide)).trans ?_)) (nI_ne9 (by omega))) lX6_130 (by repeat (first | assumption | exact z_up_self _ _ _ | refine (z_up_ne (by first | decide | omega)).trans ?_)) rfl rfl (by first | decide | assumption | omega) (by first | decide | omega) rfl (Nat.le_of_ble_eq_true rfl) rfl ?_
              refine zb_go (zi_iastore (by first | decide | assumption | omega) (by repeat (first | assumption | exact z_up_self _ _ _ | refine (z_up_ne (by first | decide | omega)).trans ?_)) i12) rfl ?_
              refine zb_go (zg_aload_n rfl) rfl ?_
              refine zb_go (zg_getfield fX6_20 (by first | decide | assumption | omega) (by repeat (first | assumption | exact z_up_self _ _ _ | refine (z_up_ne (by first | decide | omega)).trans ?_)) (by rfl)) rfl ?_
              refine zb_go (zg_iconst 1 (by decide)) rfl ?_
              refine zb_go (zg_dup2 rfl rfl) rfl ?_
              refine zb_go (zi_iaload (by first | decide | assumption | omega) (by repeat (first | assumption | exact z_up_self _ _ _ | refine (z_up_ne (by first | decide | omega)).trans ?_)) (by first | assumption | exact zIx.nI (by omega) (by decide) | exact ⟨by decide, by decide⟩ | exact zIx.nI (k := 0) (by decide) (by decide) | exact zIx.nI (k := 1) (by decide) (by decide) | exact zIx.nI (k := 2) (by decide) (by decide) | exact zIx.nI (k := 3) (by decide) (by decide))) rfl ?_
              rw [c3]
              refine zb_go (zg_iconst 1 (by decide)) rfl ?_
              refine zb_go zg_iadd rfl ?_
              refine zb_go (zi_iastore (by first | decide | assumption | omega) (by repeat (first | assumption | exact z_up_self _ _ _ | refine (z_up_ne (by first | decide | omega)).trans ?_)) (by first | assumption | exact zIx.nI (by omega) (by decide) | exact ⟨by decide, by decide⟩ | exact zIx.nI (k := 0) (by decide) (by decide) | exact zIx.nI (k := 1) (by decide) (by decide) | exact zIx.nI (k := 2) (by decide) (by decide) | exact zIx.nI (k := 3) (by decide) (by decide))) rfl ?_
              refine zb_end (zg_goto (tgt := 270) (by decide) ?_) rfl
              rw [nI_1]
              exact finB _ (pSk f len (kAt f len (kAt f len (kAt f len e)))) ⟨_, _, _, _, _, (by repeat (first | assumption | exact z_up_self _ _ _ | refine (z_up_ne (by decide)).trans ?_))⟩ ⟨⟨f1, (by repeat (first | assumption | exact z_up_self _ _ _ | refine (z_up_ne (by decide)).trans ?_)), b1⟩, ⟨f2, (by repeat (first | assumption | exact z_up_self _ _ _ | refine (z_up_ne (by decide)).trans ?_)), b2⟩, ⟨upd f3 1 (nI (pR P + 1)), (by repeat (first | assumption | exact z_up_self _ _ _ | refine (z_up_ne (by decide)).trans ?_)), b3⟩, ⟨upd f4 (6 + pR P) (nI (kVa f len (kAt f len e))), (by repeat (first | assumption | exact z_up_self _ _ _ | refine (z_up_ne (by decide)).trans ?_)), z_updL b4 kR0 (by omega)⟩, ⟨upd f5 (6 + pR P) (nI (kVa f len (kAt f len (kAt f len e)))), (by repeat (first | assumption | exact z_up_self _ _ _ | refine (z_up_ne (by decide)).trans ?_)), z_updL b5 kR0 (by omega)⟩, ⟨upd f6 (6 + pR P) (nI (kVa f len (kAt f len (kAt f len (kAt f len e))))), (by repeat (first | assumption | exact z_up_self _ _ _ | refine (z_up_ne (by decide)).trans ?_)), z_updL b6 kR0 (by omega)⟩, ⟨upd f7 (6 + pR P) (nI (kVa f len (kAt f len (kAt f len (kAt f len e))))), (by repeat (first | assumption | exact z_up_self _ _ _ | refine (z_up_ne (by decide)).trans ?_)), z_updL b7 kR0 (by omega)⟩, ⟨f8, (by repeat (first | assumption | exact z_up_self _ _ _ | refine (z_up_ne (by decide)).trans ?_))⟩, ⟨f9, (by repeat (first | assumption | exact z_up_self _ _ _ | refine (z_up_ne (by decide)).trans ?_)), b9⟩, ⟨f10, (by repeat (first | assumption | exact z_up_self _ _ _ | refine (z_up_ne (by decide)).trans ?_)), b10⟩⟩ ((((((((mF.up (Or.inl rfl)).up (Or.inr ⟨by decide, by decide⟩)).up (Or.inl rfl)).up (Or.inr ⟨by decide, by decide⟩)).up (Or.inl rfl)).up (Or.inr ⟨by decide, by decide⟩)).up (Or.inr ⟨by decide, by decide⟩)).up (Or.inr ⟨by decide, by decide⟩)) (by omega) hp [(1, _), (2, _)]
          · rw [hv] at hp
            simp only at hp
            refine zb_go (zi_iastore (by first | decide | assumption | omega) (by repeat (first | assumption | exact z_up_self _ _ _ | refine (z_up_ne (by first | decide | omega)).trans ?_)) i12) rfl ?_
            refine zb_go (zg_aload_n rfl) rfl ?_
            refine zb_go (zg_getfield fX6_29 (by first | decide | assumption | omega) (by repeat (first | assumption | exact z_up_self _ _ _ | refine (z_up_ne (by first | decide | omega)).trans ?_)) (by rfl)) rfl ?_
            refine zb_go (zg_iload_n rfl) rfl ?_
            refine zb_go (zg_aload_n rfl) rfl ?_
            refine zb_go (zg_iconst 0 (by decide)) rfl ?_
            refine zb_go (zg_bipush 15 (by decide)) rfl ?_
            refine zb_callv (r_X6_numberBad (tr := tr) (ty := nI len) (va := nI (kVa f len (kAt f len (kAt f len e)))) (fa := nI (pSk f len (kAt f len (kAt f len e)))) (by repeat (first | assumption | exact z_up_self _ _ _ | refine (z_up_ne (by decide)).trans ?_)) (nI_ne9 (by omega))) lX6_130 (by repeat (first | assumption | exact z_up_self _ _ _ | refine (z_up_ne (by first | decide | omega)).trans ?_)) rfl rfl (by first | decide | assumption | omega) (by first | decide | omega) rfl (Nat.le_of_ble_eq_true rfl) rfl ?_
            refine zb_go (zi_iastore (by first | decide | assumption | omega) (by repeat (first | assumption | exact z_up_self _ _ _ | refine (z_up_ne (by first | decide | omega)).trans ?_)) i12) rfl ?_
            refine zb_go (zg_aload_n rfl) rfl ?_
            refine zb_go (zg_getfield fX6_32 (by first | decide | assumption | omega) (by repeat (first | assumption | exact z_up_self _ _ _ | refine (z_up_ne (by first | decide | omega)).trans ?_)) (by rfl)) rfl ?_
            refine zb_go (zg_iload_n rfl) rfl ?_
            refine zb_go (zg_aload_n rfl) rfl ?_
            refine zb_go (zg_iconst 0 (by decide)) rfl ?_
            refine zb_go (zg_bipush 9 (by decide)) rfl ?_
            refine zb_callv (r_X6_numberBad (tr := tr) (ty := nI len) (va := nI (kVa f len (kAt f len (kAt f len e)))) (fa := nI (pSk f len (kAt f len (kAt f len e)))) (by repeat (first | assumption | exact z_up_self _ _ _ | refine (z_up_ne (by decide)).trans ?_)) (nI_ne9 (by omega))) lX6_130 (by repeat (first | assumption | exact z_up_self _ _ _ | refine (z_up_ne (by first | decide | omega)).trans ?_)) rfl rfl (by first | decide | assumption | omega) (by first | decide | omega) rfl (Nat.le_of_ble_eq_true rfl) rfl ?_
            refine zb_go (zi_iastore (by first | decide | assumption | omega) (by repeat (first | assumption | exact z_up_self _ _ _ | refine (z_up_ne (by first | decide | omega)).trans ?_)) i12) rfl ?_
            refine zb_go (zg_aload_n rfl) rfl ?_
            refine zb_go (zg_getfield fX6_20 (by first | decide | assumption | omega) (by repeat (first | assumption | exact z_up_self _ _ _ | refine (z_up_ne (by first | decide | omega)).trans ?_)) (by rfl)) rfl ?_
            refine zb_go (zg_iconst 1 (by decide)) rfl ?_
            refine zb_go (zg_dup2 rfl rfl) rfl ?_
            refine zb_go (zi_iaload (by first | decide | assumption | omega) (by repeat (first | assumption | exact z_up_self _ _ _ | refine (z_up_ne (by first | decide | omega)).trans ?_)) (by first | assumption | exact zIx.nI (by omega) (by decide) | exact ⟨by decide, by decide⟩ | exact zIx.nI (k := 0) (by decide) (by decide) | exact zIx.nI (k := 1) (by decide) (by decide) | exact zIx.nI (k := 2) (by decide) (by decide) | exact zIx.nI (k := 3) (by decide) (by decide))) rfl ?_
            rw [c3]
            refine zb_go (zg_iconst 1 (by decide)) rfl ?_
            refine zb_go zg_iadd rfl ?_
            refine zb_go (zi_iastore (by first | decide | assumption | omega) (by repeat (first | assumption | exact z_up_self _ _ _ | refine (z_up_ne (by first | decide | omega)).trans ?_)) (by first | assumption | exact zIx.nI (by omega) (by decide) | exact ⟨by decide, by decide⟩ | exact zIx.nI (k := 0) (by decide) (by decide) | exact zIx.nI (k := 1) (by decide) (by decide) | exact zIx.nI (k := 2) (by decide) (by decide) | exact zIx.nI (k := 3) (by decide) (by decide))) rfl ?_
            refine zb_end (zg_goto (tgt := 270) (by decide) ?_) rfl
            rw [nI_1]
            exact finB _ (pSk f len (kAt f len (kAt f len e))) ⟨_, _, _, _, _, (by repeat (first | assumption | exact z_up_self _ _ _ | refine (z_up_ne (by decide)).trans ?_))⟩ ⟨⟨f1, (by repeat (first | assumption | exact z_up_self _ _ _ | refine (z_up_ne (by decide)).trans ?_)), b1⟩, ⟨f2, (by repeat (first | assumption | exact z_up_self _ _ _ | refine (z_up_ne (by decide)).trans ?_)), b2⟩, ⟨upd f3 1 (nI (pR P + 1)), (by repeat (first | assumption | exact z_up_self _ _ _ | refine (z_up_ne (by decide)).trans ?_)), b3⟩, ⟨upd f4 (6 + pR P) (nI (kVa f len (kAt f len e))), (by repeat (first | assumption | exact z_up_self _ _ _ | refine (z_up_ne (by decide)).trans ?_)), z_updL b4 kR0 (by omega)⟩, ⟨upd f5 (6 + pR P) (nI (kVa f len (kAt f len (kAt f len e)))), (by repeat (first | assumption | exact z_up_self _ _ _ | refine (z_up_ne (by decide)).trans ?_)), z_updL b5 kR0 (by omega)⟩, ⟨upd f6 (6 + pR P) (nI (kVa f len (kAt f len (kAt f len e)))), (by repeat (first | assumption | exact z_up_self _ _ _ | refine (z_up_ne (by decide)).trans ?_)), z_updL b6 kR0 (by omega)⟩, ⟨upd f7 (6 + pR P) (nI (kVa f len (kAt f len (kAt f len e)))), (by repeat (first | assumption | exact z_up_self _ _ _ | refine (z_up_ne (by decide)).trans ?_)), z_updL b7 kR0 (by omega)⟩, ⟨f8, (by repeat (first | assumption | exact z_up_self _ _ _ | refine (z_up_ne (by decide)).trans ?_))⟩, ⟨f9, (by repeat (first | assumption | exact z_up_self _ _ _ | refine (z_up_ne (by decide)).trans ?_)), b9⟩, ⟨f10, (by repeat (first | assumption | exact z_up_self _ _ _ | refine (z_up_ne (by decide)).trans ?_)), b10⟩⟩ (((((((mF.up (Or.inl rfl)).up (Or.inr ⟨by decide, by decide⟩)).up (Or.inl rfl)).up (Or.inr ⟨by decide, by decide⟩)).up (Or.inr ⟨by decide, by decide⟩)).up (Or.inr ⟨by decide, by decide⟩)).up (Or.inr ⟨by decide, by decide⟩)) (by omega) hp [(1, _), (2, _)]
        · rw [hv] at hp
          simp only at hp
          refine zb_go (zi_iastore (by first | decide | assumption | omega) (by repeat (first | assumption | exact z_up_self _ _ _ | refine (z_up_ne (by first | decide | omega)).trans ?_)) i12) rfl ?_
          refine zb_go (zg_aload_n rfl) rfl ?_
          refine zb_go (zg_getfield fX6_26 (by first | decide | assumption | omega) (by repeat (first | assumption | exact z_up_self _ _ _ | refine (z_up_ne (by first | decide | omega)).trans ?_)) (by rfl)) rfl ?_
          refine zb_go (zg_iload_n rfl) rfl ?_
          refine zb_go (zg_aload_n rfl) rfl ?_
          refine zb_go (zg_iconst 0 (by decide)) rfl ?_
          refine zb_go (zg_bipush 7 (by decide)) rfl ?_
          refine zb_callv (r_X6_numberBad (tr := tr) (ty := nI len) (va := nI (kVa f len (kAt f len e))) (fa := nI (pSk f len (kAt f len e))) (by repeat (first | assumption | exact z_up_self _ _ _ | refine (z_up_ne (by decide)).trans ?_)) (nI_ne9 (by omega))) lX6_130 (by repeat (first | assumption | exact z_up_self _ _ _ | refine (z_up_ne (by first | decide | omega)).trans ?_)) rfl rfl (by first | decide | assumption | omega) (by first | decide | omega) rfl (Nat.le_of_ble_eq_true rfl) rfl ?_
          refine zb_go (zi_iastore (by first | decide | assumption | omega) (by repeat (first | assumption | exact z_up_self _ _ _ | refine (z_up_ne (by first | decide | omega)).trans ?_)) i12) rfl ?_
          refine zb_go (zg_aload_n rfl) rfl ?_
          refine zb_go (zg_getfield fX6_29 (by first | decide | assumption | omega) (by repeat (first | assumption | exact z_up_self _ _ _ | refine (z_up_ne (by first | decide | omega)).trans ?_)) (by rfl)) rfl ?_
          refine zb_go (zg_iload_n rfl) rfl ?_
          refine zb_go (zg_aload_n rfl) rfl ?_
          refine zb_go (zg_iconst 0 (by decide)) rfl ?_
          refine zb_go (zg_bipush 15 (by decide)) rfl ?_
          refine zb_callv (r_X6_numberBad (tr := tr) (ty := nI len) (va := nI (kVa f len (kAt f len e))) (fa := nI (pSk f len (kAt f len e))) (by repeat (first | assumption | exact z_up_self _ _ _ | refine (z_up_ne (by decide)).trans ?_)) (nI_ne9 (by omega))) lX6_130 (by repeat (first | assumption | exact z_up_self _ _ _ | refine (z_up_ne (by first | decide | omega)).trans ?_)) rfl rfl (by first | decide | assumption | omega) (by first | decide | omega) rfl (Nat.le_of_ble_eq_true rfl) rfl ?_
          refine zb_go (zi_iastore (by first | decide | assumption | omega) (by repeat (first | assumption | exact z_up_self _ _ _ | refine (z_up_ne (by first | decide | omega)).trans ?_)) i12) rfl ?_
          refine zb_go (zg_aload_n rfl) rfl ?_
          refine zb_go (zg_getfield fX6_32 (by first | decide | assumption | omega) (by repeat (first | assumption | exact z_up_self _ _ _ | refine (z_up_ne (by first | decide | omega)).trans ?_)) (by rfl)) rfl ?_
          refine zb_go (zg_iload_n rfl) rfl ?_
          refine zb_go (zg_aload_n rfl) rfl ?_
          refine zb_go (zg_iconst 0 (by decide)) rfl ?_
          refine zb_go (zg_bipush 9 (by decide)) rfl ?_
          refine zb_callv (r_X6_numberBad (tr := tr) (ty := nI len) (va := nI (kVa f len (kAt f len e))) (fa := nI (pSk f len (kAt f len e))) (by repeat (first | assumption | exact z_up_self _ _ _ | refine (z_up_ne (by decide)).trans ?_)) (nI_ne9 (by omega))) lX6_130 (by repeat (first | assumption | exact z_up_self _ _ _ | refine (z_up_ne (by first | decide | omega)).trans ?_)) rfl rfl (by first | decide | assumption | omega) (by first | decide | omega) rfl (Nat.le_of_ble_eq_true rfl) rfl ?_
          refine zb_go (zi_iastore (by first | decide | assumption | omega) (by repeat (first | assumption | exact z_up_self _ _ _ | refine (z_up_ne (by first | decide | omega)).trans ?_)) i12) rfl ?_
          refine zb_go (zg_aload_n rfl) rfl ?_
          refine zb_go (zg_getfield fX6_20 (by first | decide | assumption | omega) (by repeat (first | assumption | exact z_up_self _ _ _ | refine (z_up_ne (by first | decide | omega)).trans ?_)) (by rfl)) rfl ?_
          refine zb_go (zg_iconst 1 (by decide)) rfl ?_
          refine zb_go (zg_dup2 rfl rfl) rfl ?_
          refine zb_go (zi_iaload (by first | decide | assumption | omega) (by repeat (first | assumption | exact z_up_self _ _ _ | refine (z_up_ne (by first | decide | omega)).trans ?_)) (by first | assumption | exact zIx.nI (by omega) (by decide) | exact ⟨by decide, by decide⟩ | exact zIx.nI (k := 0) (by decide) (by decide) | exact zIx.nI (k := 1) (by decide) (by decide) | exact zIx.nI (k := 2) (by decide) (by decide) | exact zIx.nI (k := 3) (by decide) (by decide))) rfl ?_
          rw [c3]
          refine zb_go (zg_iconst 1 (by decide)) rfl ?_
          refine zb_go zg_iadd rfl ?_
          refine zb_go (zi_iastore (by first | decide | assumption | omega) (by repeat (first | assumption | exact z_up_self _ _ _ | refine (z_up_ne (by first | decide | omega)).trans ?_)) (by first | assumption | exact zIx.nI (by omega) (by decide) | exact ⟨by decide, by decide⟩ | exact zIx.nI (k := 0) (by decide) (by decide) | exact zIx.nI (k := 1) (by decide) (by decide) | exact zIx.nI (k := 2) (by decide) (by decide) | exact zIx.nI (k := 3) (by decide) (by decide))) rfl ?_
          refine zb_end (zg_goto (tgt := 270) (by decide) ?_) rfl
          rw [nI_1]
          exact finB _ (pSk f len (kAt f len e)) ⟨_, _, _, _, _, (by repeat (first | assumption | exact z_up_self _ _ _ | refine (z_up_ne (by decide)).trans ?_))⟩ ⟨⟨f1, (by repeat (first | assumption | exact z_up_self _ _ _ | refine (z_up_ne (by decide)).trans ?_)), b1⟩, ⟨f2, (by repeat (first | assumption | exact z_up_self _ _ _ | refine (z_up_ne (by decide)).trans ?_)), b2⟩, ⟨upd f3 1 (nI (pR P + 1)), (by repeat (first | assumption | exact z_up_self _ _ _ | refine (z_up_ne (by decide)).trans ?_)), b3⟩, ⟨upd f4 (6 + pR P) (nI (kVa f len (kAt f len e))), (by repeat (first | assumption | exact z_up_self _ _ _ | refine (z_up_ne (by decide)).trans ?_)), z_updL b4 kR0 (by omega)⟩, ⟨upd f5 (6 + pR P) (nI (kVa f len (kAt f len e))), (by repeat (first | assumption | exact z_up_self _ _ _ | refine (z_up_ne (by decide)).trans ?_)), z_updL b5 kR0 (by omega)⟩, ⟨upd f6 (6 + pR P) (nI (kVa f len (kAt f len e))), (by repeat (first | assumption | exact z_up_self _ _ _ | refine (z_up_ne (by decide)).trans ?_)), z_updL b6 kR0 (by omega)⟩, ⟨upd f7 (6 + pR P) (nI (kVa f len (kAt f len e))), (by repeat (first | assumption | exact z_up_self _ _ _ | refine (z_up_ne (by decide)).trans ?_)), z_updL b7 kR0 (by omega)⟩, ⟨f8, (by repeat (first | assumption | exact z_up_self _ _ _ | refine (z_up_ne (by decide)).trans ?_))⟩, ⟨f9, (by repeat (first | assumption | exact z_up_self _ _ _ | refine (z_up_ne (by decide)).trans ?_)), b9⟩, ⟨f10, (by repeat (first | assumption | exact z_up_self _ _ _ | refine (z_up_ne (by decide)).trans ?_)), b10⟩⟩ ((((((mF.up (Or.inl rfl)).up (Or.inr ⟨by decide, by decide⟩)).up (Or.inr ⟨by decide, by decide⟩)).up (Or.inr ⟨by decide, by decide⟩)).up (Or.inr ⟨by decide, by decide⟩)).up (Or.inr ⟨by decide, by decide⟩)) (by omega) hp [(1, _), (2, _)]
      · -- tower
        have hp1 : pNums f len (pBounds 2) (kAt f len e) = _ := pNums_1 (lo := 0) (hi := 60)
        rw [hp1] at hp
        refine zb_end (len := 32) (zg_tableIn 139 227 (by decide) (by decide) (by rfl) (by decide) ?_) rfl
        refine kX6_readItem_227 ?_
        refine zb_go (zg_aload_n rfl) rfl ?_
        refine zb_go (zg_getfield fX6_35 (by first | decide | assumption | omega) (by repeat (first | assumption | exact z_up_self _ _ _ | refine (z_up_ne (by first | decide | omega)).trans ?_)) (by rfl)) rfl ?_
        refine zb_go (zg_iconst 1 (by decide)) rfl ?_
        refine zb_go (zg_aload_n rfl) rfl ?_
        refine zb_go (zg_iconst 0 (by decide)) rfl ?_
        refine zb_go (zg_bipush 60 (by decide)) rfl ?_
        refine zb_callvx (r_X6_number (lo := 0) (hi := 60) m34 m35 htx hl he1 (by decide) (by decide)) lX6_130 (by repeat (first | assumption | exact z_up_self _ _ _ | refine (z_up_ne (by first | decide | omega)).trans ?_)) rfl rfl (by first | decide | assumption | omega) (by first | decide | omega) rfl (Nat.le_of_ble_eq_true rfl) rfl ?_
        rintro v h' ⟨rfl, hv⟩
        rcases hv with ⟨hv, rfl⟩ | ⟨hv, rfl⟩
        · rw [hv] at hp
          refine zb_go (zi_iastore (by first | decide | assumption | omega) (by repeat (first | assumption | exact z_up_self _ _ _ | refine (z_up_ne (by first | decide | omega)).trans ?_)) (by first | assumption | exact zIx.nI (by omega) (by decide) | exact ⟨by decide, by decide⟩ | exact zIx.nI (k := 0) (by decide) (by decide) | exact zIx.nI (k := 1) (by decide) (by decide) | exact zIx.nI (k := 2) (by decide) (by decide) | exact zIx.nI (k := 3) (by decide) (by decide))) rfl ?_
          refine zb_end (zg_goto (tgt := 270) (by decide) ?_) rfl
          exact finG 2 _ [kVa f len (kAt f len e)] (kAt f len (kAt f len e)) tol2 (by decide) (by repeat (first | assumption | exact z_up_self _ _ _ | refine (z_up_ne (by decide)).trans ?_)) (by repeat (first | assumption | exact z_up_self _ _ _ | refine (z_up_ne (by decide)).trans ?_)) ⟨⟨f1, (by repeat (first | assumption | exact z_up_self _ _ _ | refine (z_up_ne (by decide)).trans ?_)), b1, c1⟩, ⟨f2, (by repeat (first | assumption | exact z_up_self _ _ _ | refine (z_up_ne (by decide)).trans ?_)), b2, c2⟩, ⟨f3, (by repeat (first | assumption | exact z_up_self _ _ _ | refine (z_up_ne (by decide)).trans ?_)), b3, c3⟩, ⟨f4, (by repeat (first | assumption | exact z_up_self _ _ _ | refine (z_up_ne (by decide)).trans ?_)), b4, c4⟩, ⟨f5, (by repeat (first | assumption | exact z_up_self _ _ _ | refine (z_up_ne (by decide)).trans ?_)), b5, c5⟩, ⟨f6, (by repeat (first | assumption | exact z_up_self _ _ _ | refine (z_up_ne (by decide)).trans ?_)), b6, c6⟩, ⟨f7, (by repeat (first | assumption | exact z_up_self _ _ _ | refine (z_up_ne (by decide)).trans ?_)), b7, c7⟩, ⟨upd f8 1 (nI (kVa f len (kAt f len e))), (by repeat (first | assumption | exact z_up_self _ _ _ | refine (z_up_ne (by decide)).trans ?_)), pk_us⟩, ⟨f9, (by repeat (first | assumption | exact z_up_self _ _ _ | refine (z_up_ne (by decide)).trans ?_)), b9, c9⟩, ⟨f10, (by repeat (first | assumption | exact z_up_self _ _ _ | refine (z_up_ne (by decide)).trans ?_)), b10, c10⟩⟩ ((mF.up (Or.inl rfl)).up (Or.inr ⟨by decide, by decide⟩)) (kAt_le he1) ht1 ht2 hp [(1, _)]
        · rw [hv] at hp
          refine zb_go (zi_iastore (by first | decide | assumption | omega) (by repeat (first | assumption | exact z_up_self _ _ _ | refine (z_up_ne (by first | decide | omega)).trans ?_)) (by first | assumption | exact zIx.nI (by omega) (by decide) | exact ⟨by decide, by decide⟩ | exact zIx.nI (k := 0) (by decide) (by decide) | exact zIx.nI (k := 1) (by decide) (by decide) | exact zIx.nI (k := 2) (by decide) (by decide) | exact zIx.nI (k := 3) (by decide) (by decide))) rfl ?_
          refine zb_end (zg_goto (tgt := 270) (by decide) ?_) rfl
          have hsk := pSk_le (f := f) he1
          exact finB _ (pSk f len (kAt f len e)) ⟨_, _, _, _, _, (by repeat (first | assumption | exact z_up_self _ _ _ | refine (z_up_ne (by decide)).trans ?_))⟩ ⟨⟨f1, (by repeat (first | assumption | exact z_up_self _ _ _ | refine (z_up_ne (by decide)).trans ?_)), b1⟩, ⟨f2, (by repeat (first | assumption | exact z_up_self _ _ _ | refine (z_up_ne (by decide)).trans ?_)), b2⟩, ⟨f3, (by repeat (first | assumption | exact z_up_self _ _ _ | refine (z_up_ne (by decide)).trans ?_)), b3⟩, ⟨f4, (by repeat (first | assumption | exact z_up_self _ _ _ | refine (z_up_ne (by decide)).trans ?_)), b4⟩, ⟨f5, (by repeat (first | assumption | exact z_up_self _ _ _ | refine (z_up_ne (by decide)).trans ?_)), b5⟩, ⟨f6, (by repeat (first | assumption | exact z_up_self _ _ _ | refine (z_up_ne (by decide)).trans ?_)), b6⟩, ⟨f7, (by repeat (first | assumption | exact z_up_self _ _ _ | refine (z_up_ne (by decide)).trans ?_)), b7⟩, ⟨upd f8 1 (nI (kVa f len (kAt f len e))), (by repeat (first | assumption | exact z_up_self _ _ _ | refine (z_up_ne (by decide)).trans ?_))⟩, ⟨f9, (by repeat (first | assumption | exact z_up_self _ _ _ | refine (z_up_ne (by decide)).trans ?_)), b9⟩, ⟨f10, (by repeat (first | assumption | exact z_up_self _ _ _ | refine (z_up_ne (by decide)).trans ?_)), b10⟩⟩ ((mF.up (Or.inl rfl)).up (Or.inr ⟨by decide, by decide⟩)) (by omega) hp [(1, _)]
      · -- times
        have hp1 : pNums f len (pBounds 3) (kAt f len e) = _ := pNums_1 (lo := 1) (hi := 4)
        rw [hp1] at hp
        refine zb_end (len := 32) (zg_tableIn 155 243 (by decide) (by decide) (by rfl) (by decide) ?_) rfl
        refine kX6_readItem_243 ?_
        refine zb_go (zg_aload_n rfl) rfl ?_
        refine zb_go (zg_getfield fX6_38 (by first | decide | assumption | omega) (by repeat (first | assumption | exact z_up_self _ _ _ | refine (z_up_ne (by first | decide | omega)).trans ?_)) (by rfl)) rfl ?_
        refine zb_go (zg_iconst 1 (by decide)) rfl ?_
        refine zb_go (zg_aload_n rfl) rfl ?_
        refine zb_go (zg_iconst 1 (by decide)) rfl ?_
        refine zb_go (zg_iconst 4 (by decide)) rfl ?_
        refine zb_callvx (r_X6_number (lo := 1) (hi := 4) m34 m35 htx hl he1 (by decide) (by decide)) lX6_130 (by repeat (first | assumption | exact z_up_self _ _ _ | refine (z_up_ne (by first | decide | omega)).trans ?_)) rfl rfl (by first | decide | assumption | omega) (by first | decide | omega) rfl (Nat.le_of_ble_eq_true rfl) rfl ?_
        rintro v h' ⟨rfl, hv⟩
        rcases hv with ⟨hv, rfl⟩ | ⟨hv, rfl⟩
        · rw [hv] at hp
          refine zb_go (zi_iastore (by first | decide | assumption | omega) (by repeat (first | assumption | exact z_up_self _ _ _ | refine (z_up_ne (by first | decide | omega)).trans ?_)) (by first | assumption | exact zIx.nI (by omega) (by decide) | exact ⟨by decide, by decide⟩ | exact zIx.nI (k := 0) (by decide) (by decide) | exact zIx.nI (k := 1) (by decide) (by decide) | exact zIx.nI (k := 2) (by decide) (by decide) | exact zIx.nI (k := 3) (by decide) (by decide))) rfl ?_
          refine zb_end (zg_goto (tgt := 270) (by decide) ?_) rfl
          exact finG 3 _ [kVa f len (kAt f len e)] (kAt f len (kAt f len e)) tol2 (by decide) (by repeat (first | assumption | exact z_up_self _ _ _ | refine (z_up_ne (by decide)).trans ?_)) (by repeat (first | assumption | exact z_up_self _ _ _ | refine (z_up_ne (by decide)).trans ?_)) ⟨⟨f1, (by repeat (first | assumption | exact z_up_self _ _ _ | refine (z_up_ne (by decide)).trans ?_)), b1, c1⟩, ⟨f2, (by repeat (first | assumption | exact z_up_self _ _ _ | refine (z_up_ne (by decide)).trans ?_)), b2, c2⟩, ⟨f3, (by repeat (first | assumption | exact z_up_self _ _ _ | refine (z_up_ne (by decide)).trans ?_)), b3, c3⟩, ⟨f4, (by repeat (first | assumption | exact z_up_self _ _ _ | refine (z_up_ne (by decide)).trans ?_)), b4, c4⟩, ⟨f5, (by repeat (first | assumption | exact z_up_self _ _ _ | refine (z_up_ne (by decide)).trans ?_)), b5, c5⟩, ⟨f6, (by repeat (first | assumption | exact z_up_self _ _ _ | refine (z_up_ne (by decide)).trans ?_)), b6, c6⟩, ⟨f7, (by repeat (first | assumption | exact z_up_self _ _ _ | refine (z_up_ne (by decide)).trans ?_)), b7, c7⟩, ⟨f8, (by repeat (first | assumption | exact z_up_self _ _ _ | refine (z_up_ne (by decide)).trans ?_)), c8⟩, ⟨upd f9 1 (nI (kVa f len (kAt f len e))), (by repeat (first | assumption | exact z_up_self _ _ _ | refine (z_up_ne (by decide)).trans ?_)), b9, pk_us⟩, ⟨f10, (by repeat (first | assumption | exact z_up_self _ _ _ | refine (z_up_ne (by decide)).trans ?_)), b10, c10⟩⟩ ((mF.up (Or.inl rfl)).up (Or.inr ⟨by decide, by decide⟩)) (kAt_le he1) ht1 ht2 hp [(1, _)]
        · rw [hv] at hp
          refine zb_go (zi_iastore (by first | decide | assumption | omega) (by repeat (first | assumption | exact z_up_self _ _ _ | refine (z_up_ne (by first | decide | omega)).trans ?_)) (by first | assumption | exact zIx.nI (by omega) (by decide) | exact ⟨by decide, by decide⟩ | exact zIx.nI (k := 0) (by decide) (by decide) | exact zIx.nI (k := 1) (by decide) (by decide) | exact zIx.nI (k := 2) (by decide) (by decide) | exact zIx.nI (k := 3) (by decide) (by decide))) rfl ?_
          refine zb_end (zg_goto (tgt := 270) (by decide) ?_) rfl
          have hsk := pSk_le (f := f) he1
          exact finB _ (pSk f len (kAt f len e)) ⟨_, _, _, _, _, (by repeat (first | assumption | exact z_up_self _ _ _ | refine (z_up_ne (by decide)).trans ?_))⟩ ⟨⟨f1, (by repeat (first | assumption | exact z_up_self _ _ _ | refine (z_up_ne (by decide)).trans ?_)), b1⟩, ⟨f2, (by repeat (first | assumption | exact z_up_self _ _ _ | refine (z_up_ne (by decide)).trans ?_)), b2⟩, ⟨f3, (by repeat (first | assumption | exact z_up_self _ _ _ | refine (z_up_ne (by decide)).trans ?_)), b3⟩, ⟨f4, (by repeat (first | assumption | exact z_up_self _ _ _ | refine (z_up_ne (by decide)).trans ?_)), b4⟩, ⟨f5, (by repeat (first | assumption | exact z_up_self _ _ _ | refine (z_up_ne (by decide)).trans ?_)), b5⟩, ⟨f6, (by repeat (first | assumption | exact z_up_self _ _ _ | refine (z_up_ne (by decide)).trans ?_)), b6⟩, ⟨f7, (by repeat (first | assumption | exact z_up_self _ _ _ | refine (z_up_ne (by decide)).trans ?_)), b7⟩, ⟨f8, (by repeat (first | assumption | exact z_up_self _ _ _ | refine (z_up_ne (by decide)).trans ?_))⟩, ⟨upd f9 1 (nI (kVa f len (kAt f len e))), (by repeat (first | assumption | exact z_up_self _ _ _ | refine (z_up_ne (by decide)).trans ?_)), b9⟩, ⟨f10, (by repeat (first | assumption | exact z_up_self _ _ _ | refine (z_up_ne (by decide)).trans ?_)), b10⟩⟩ ((mF.up (Or.inl rfl)).up (Or.inr ⟨by decide, by decide⟩)) (by omega) hp [(1, _)]
      · -- rest
        have hp1 : pNums f len (pBounds 4) (kAt f len e) = _ := pNums_1 (lo := 0) (hi := 3)
        rw [hp1] at hp
        refine zb_end (len := 32) (zg_tableOut 258 (Or.inr (by decide)) (by decide) ?_) rfl
        refine kX6_readItem_258 ?_
        refine zb_go (zg_aload_n rfl) rfl ?_
        refine zb_go (zg_getfield fX6_41 (by first | decide | assumption | omega) (by repeat (first | assumption | exact z_up_self _ _ _ | refine (z_up_ne (by first | decide | omega)).trans ?_)) (by rfl)) rfl ?_
        refine zb_go (zg_iconst 1 (by decide)) rfl ?_
        refine zb_go (zg_aload_n rfl) rfl ?_
        refine zb_go (zg_iconst 0 (by decide)) rfl ?_
        refine zb_go (zg_iconst 3 (by decide)) rfl ?_
        refine zb_callvx (r_X6_number (lo := 0) (hi := 3) m34 m35 htx hl he1 (by decide) (by decide)) lX6_130 (by repeat (first | assumption | exact z_up_self _ _ _ | refine (z_up_ne (by first | decide | omega)).trans ?_)) rfl rfl (by first | decide | assumption | omega) (by first | decide | omega) rfl (Nat.le_of_ble_eq_true rfl) rfl ?_
        rintro v h' ⟨rfl, hv⟩
        rcases hv with ⟨hv, rfl⟩ | ⟨hv, rfl⟩
        · rw [hv] at hp
          refine zb_go (zi_iastore (by first | decide | assumption | omega) (by repeat (first | assumption | exact z_up_self _ _ _ | refine (z_up_ne (by first | decide | omega)).trans ?_)) (by first | assumption | exact zIx.nI (by omega) (by decide) | exact ⟨by decide, by decide⟩ | exact zIx.nI (k := 0) (by decide) (by decide) | exact zIx.nI (k := 1) (by decide) (by decide) | exact zIx.nI (k := 2) (by decide) (by decide) | exact zIx.nI (k := 3) (by decide) (by decide))) rfl ?_
          refine zb_out ?_
          exact finG 4 _ [kVa f len (kAt f len e)] (kAt f len (kAt f len e)) tol2 (by decide) (by repeat (first | assumption | exact z_up_self _ _ _ | refine (z_up_ne (by decide)).trans ?_)) (by repeat (first | assumption | exact z_up_self _ _ _ | refine (z_up_ne (by decide)).trans ?_)) ⟨⟨f1, (by repeat (first | assumption | exact z_up_self _ _ _ | refine (z_up_ne (by decide)).trans ?_)), b1, c1⟩, ⟨f2, (by repeat (first | assumption | exact z_up_self _ _ _ | refine (z_up_ne (by decide)).trans ?_)), b2, c2⟩, ⟨f3, (by repeat (first | assumption | exact z_up_self _ _ _ | refine (z_up_ne (by decide)).trans ?_)), b3, c3⟩, ⟨f4, (by repeat (first | assumption | exact z_up_self _ _ _ | refine (z_up_ne (by decide)).trans ?_)), b4, c4⟩, ⟨f5, (by repeat (first | assumption | exact z_up_self _ _ _ | refine (z_up_ne (by decide)).trans ?_)), b5, c5⟩, ⟨f6, (by repeat (first | assumption | exact z_up_self _ _ _ | refine (z_up_ne (by decide)).trans ?_)), b6, c6⟩, ⟨f7, (by repeat (first | assumption | exact z_up_self _ _ _ | refine (z_up_ne (by decide)).trans ?_)), b7, c7⟩, ⟨f8, (by repeat (first | assumption | exact z_up_self _ _ _ | refine (z_up_ne (by decide)).trans ?_)), c8⟩, ⟨f9, (by repeat (first | assumption | exact z_up_self _ _ _ | refine (z_up_ne (by decide)).trans ?_)), b9, c9⟩, ⟨upd f10 1 (nI (kVa f len (kAt f len e))), (by repeat (first | assumption | exact z_up_self _ _ _ | refine (z_up_ne (by decide)).trans ?_)), b10, pk_us⟩⟩ ((mF.up (Or.inl rfl)).up (Or.inr ⟨by decide, by decide⟩)) (kAt_le he1) ht1 ht2 hp [(1, _)]
        · rw [hv] at hp
          refine zb_go (zi_iastore (by first | decide | assumption | omega) (by repeat (first | assumption | exact z_up_self _ _ _ | refine (z_up_ne (by first | decide | omega)).trans ?_)) (by first | assumption | exact zIx.nI (by omega) (by decide) | exact ⟨by decide, by decide⟩ | exact zIx.nI (k := 0) (by decide) (by decide) | exact zIx.nI (k := 1) (by decide) (by decide) | exact zIx.nI (k := 2) (by decide) (by decide) | exact zIx.nI (k := 3) (by decide) (by decide))) rfl ?_
          refine zb_out ?_
          have hsk := pSk_le (f := f) he1
          exact finB _ (pSk f len (kAt f len e)) ⟨_, _, _, _, _, (by repeat (first | assumption | exact z_up_self _ _ _ | refine (z_up_ne (by decide)).trans ?_))⟩ ⟨⟨f1, (by repeat (first | assumption | exact z_up_self _ _ _ | refine (z_up_ne (by decide)).trans ?_)), b1⟩, ⟨f2, (by repeat (first | assumption | exact z_up_self _ _ _ | refine (z_up_ne (by decide)).trans ?_)), b2⟩, ⟨f3, (by repeat (first | assumption | exact z_up_self _ _ _ | refine (z_up_ne (by decide)).trans ?_)), b3⟩, ⟨f4, (by repeat (first | assumption | exact z_up_self _ _ _ | refine (z_up_ne (by decide)).trans ?_)), b4⟩, ⟨f5, (by repeat (first | assumption | exact z_up_self _ _ _ | refine (z_up_ne (by decide)).trans ?_)), b5⟩, ⟨f6, (by repeat (first | assumption | exact z_up_self _ _ _ | refine (z_up_ne (by decide)).trans ?_)), b6⟩, ⟨f7, (by repeat (first | assumption | exact z_up_self _ _ _ | refine (z_up_ne (by decide)).trans ?_)), b7⟩, ⟨f8, (by repeat (first | assumption | exact z_up_self _ _ _ | refine (z_up_ne (by decide)).trans ?_))⟩, ⟨f9, (by repeat (first | assumption | exact z_up_self _ _ _ | refine (z_up_ne (by decide)).trans ?_)), b9⟩, ⟨upd f10 1 (nI (kVa f len (kAt f len e))), (by repeat (first | assumption | exact z_up_self _ _ _ | refine (z_up_ne (by decide)).trans ?_)), b10⟩⟩ ((mF.up (Or.inl rfl)).up (Or.inr ⟨by decide, by decide⟩)) (by omega) hp [(1, _)]
    · exact absurd rfl d0
  cases ek : pKind f len (pSk f len e) with
  | none =>
    have hp : pItem f len P tob (pSk f len e) = .inl (pSk f len e) := by unfold pItem; rw [ek]
    have k6 : 6 ≤ kSo f len e := by
      unfold kSo
      rw [if_neg hnle]
      by_cases az : pAz f (pSk f len e) = true
      · rw [if_pos az, ek]; decide
      · rw [if_neg az]
        split
        · split <;> decide
        · split <;> decide
    have hin : ¬ (2 ≤ nI (kSo f len e) ∧ nI (kSo f len e) ≤ 4) := fun w => by
      have := (nI_leI (b := 4) (by omega) (by decide)).mp w.2
      omega
    refine kX6_readItem_0 ?_
    refine zb_go (zg_aload_n rfl) rfl ?_
    refine zb_go (zg_getfield fX6_110 (by first | decide | assumption | omega) (by repeat (first | assumption | exact z_up_self _ _ _ | refine (z_up_ne (by first | decide | omega)).trans ?_)) (by rfl)) rfl ?_
    refine zb_go (zg_istore_n (by decide)) rfl ?_
    refine zb_go (zg_aload_n rfl) rfl ?_
    refine zb_go (zg_iload_n rfl) rfl ?_
    refine zb_br (zg_if_ne (tgt := 20) (by decide)) rfl (fun d0 => ?_) (fun d0 => ?_)
    · refine kX6_readItem_20 ?_
      refine zb_go (zg_iload_n rfl) rfl ?_
      refine zb_go (zg_iconst 1 (by decide)) rfl ?_
      refine zb_br (zg_icmp_ne (tgt := 36) (by decide)) rfl (fun d1 => ?_) (fun d1 => ?_)
      · refine kX6_readItem_36 ?_
        refine zb_go (zg_iload_n rfl) rfl ?_
        refine zb_go (zg_iconst 2 (by decide)) rfl ?_
        refine zb_go (zg_iconst 4 (by decide)) rfl ?_
        refine zb_calls (r_X6_inF hin) lX6_87 rfl (by first | decide | omega) rfl (Nat.le_of_ble_eq_true rfl) rfl ?_
        refine zb_br (zg_if_eq (tgt := 60) (by decide)) rfl (fun d2 => ?_) (fun d2 => ?_)
        · exact no hp
        · exact absurd rfl d2
      · have := (nI_eq (b := 1) (by omega) (by decide)).mp d1
        omega
    · have := (nI_eq (b := 0) (by omega) (by decide)).mp d0
      omega
  | some k =>
    have hk := pKind_lt ek
    have az : pAz f (pSk f len e) = true := by
      rcases Bool.eq_false_or_eq_true (pAz f (pSk f len e)) with w | w
      · exact w
      · rw [pKind_no w] at ek; cases ek
    have eK : kSo f len e = k := by rw [kSo_az hnle az, ek]; rfl
    have eA : kAt f len e = pLt f len (pSk f len e) := by unfold kAt; rw [if_neg hnle, if_pos az]
    have hN : ¬ pMay P tob k = true → zGo K l 4 mX6_readItem 60 [(0, .ref 34), (1, .int (nI k))] [.ref 34] 59 H 0 0 Q := by
      intro hm
      rw [← eK]
      refine no ?_
      unfold pItem
      rw [ek]
      simp only [if_neg hm]
    have hY : pMay P tob k = true → zGo K l 4 mX6_readItem 56 [(0, .ref 34), (1, .int (nI k))] [.ref 34] 59 H 0 0 Q := by
      intro hm
      rw [← eK]
      refine yes k hk eK ?_ hm
      unfold pItem
      rw [ek, eA]
      simp only [if_pos hm]
      cases pNums f len (pBounds k) (pLt f len (pSk f len e)) with
      | inl x => rfl
      | inr q =>
        obtain ⟨vs, j⟩ := q
        dsimp only
        cases pEnd f len j with
        | inl x => rfl
        | inr q => rfl
    clear yes no finG finB
    refine kX6_readItem_0 ?_
    refine zb_go (zg_aload_n rfl) rfl ?_
    refine zb_go (zg_getfield fX6_110 (by first | decide | assumption | omega) (by repeat (first | assumption | exact z_up_self _ _ _ | refine (z_up_ne (by first | decide | omega)).trans ?_)) (by rfl)) rfl ?_
    refine zb_go (zg_istore_n (by decide)) rfl ?_
    refine zb_go (zg_aload_n rfl) rfl ?_
    rw [eK]
    refine zb_go (zg_iload_n rfl) rfl ?_
    refine zb_br (zg_if_ne (tgt := 20) (by decide)) rfl (fun d0 => ?_) (fun d0 => ?_)
    · have d0 : k ≠ 0 := fun w => d0 (by rw [w]; rfl)
      refine kX6_readItem_20 ?_
      refine zb_go (zg_iload_n rfl) rfl ?_
      refine zb_go (zg_iconst 1 (by decide)) rfl ?_
      refine zb_br (zg_icmp_ne (tgt := 36) (by decide)) rfl (fun d1 => ?_) (fun d1 => ?_)
      · have d1 : k ≠ 1 := fun w => d1 (by rw [w]; rfl)
        have hin : 2 ≤ nI k ∧ nI k ≤ 4 := ⟨nI_le (a := 2) (by omega) (by omega), nI_le (b := 4) (by omega) (by decide)⟩
        have em : pMay P tob k = !tob k := by unfold pMay; rw [if_neg d0, if_neg d1]
        rw [em, ← hto2 k hk] at hN hY
        refine kX6_readItem_36 ?_
        refine zb_go (zg_iload_n rfl) rfl ?_
        refine zb_go (zg_iconst 2 (by decide)) rfl ?_
        refine zb_go (zg_iconst 4 (by decide)) rfl ?_
        refine zb_calls (r_X6_inT hin) lX6_87 rfl (by first | decide | omega) rfl (Nat.le_of_ble_eq_true rfl) rfl ?_
        refine zb_br (zg_if_eq (tgt := 60) (by decide)) rfl (fun d2 => ?_) (fun d2 => ?_)
        · exact absurd d2 (by decide)
        · refine zb_go (zg_aload_n rfl) rfl ?_
          refine zb_go (zg_getfield fX6_127 (by first | decide | assumption | omega) (by repeat (first | assumption | exact z_up_self _ _ _ | refine (z_up_ne (by first | decide | omega)).trans ?_)) (by rfl)) rfl ?_
          refine zb_go (zg_iload_n rfl) rfl ?_
          refine zb_go zg_ishr rfl ?_
          refine zb_go (zg_iconst 1 (by decide)) rfl ?_
          refine zb_go zg_iand rfl ?_
          rw [z_bit (by omega) (by omega)]
          refine zb_br (zg_if_ne (tgt := 60) (by decide)) rfl (fun d3 => ?_) (fun d3 => ?_)
          · refine hN (fun w => ?_)
            rcases Bool.eq_false_or_eq_true (tol.testBit k) with u | u
            · rw [u] at w; cases w
            · rw [u] at d3; exact d3 rfl
          · refine zb_out ?_
            refine hY ?_
            rcases Bool.eq_false_or_eq_true (tol.testBit k) with u | u
            · rw [u] at d3; exact absurd d3 (by decide)
            · rw [u]; rfl
      · have d1 : k = 1 := (nI_eq (b := 1) (by omega) (by decide)).mp d1
        subst d1
        have em : pMay P tob 1 = decide (pR P < 6) := rfl
        rw [em] at hN hY
        refine zb_go (zg_aload_n rfl) rfl ?_
        refine zb_go (zg_getfield fX6_20 (by first | decide | assumption | omega) (by repeat (first | assumption | exact z_up_self _ _ _ | refine (z_up_ne (by first | decide | omega)).trans ?_)) (by rfl)) rfl ?_
        refine zb_go (zg_iconst 1 (by decide)) rfl ?_
        refine zb_go (zi_iaload (by first | decide | assumption | omega) (by repeat (first | assumption | exact z_up_self _ _ _ | refine (z_up_ne (by first | decide | omega)).trans ?_)) (by first | assumption | exact zIx.nI (by omega) (by decide) | exact ⟨by decide, by decide⟩ | exact zIx.nI (k := 0) (by decide) (by decide) | exact zIx.nI (k := 1) (by decide) (by decide) | exact zIx.nI (k := 2) (by decide) (by decide) | exact zIx.nI (k := 3) (by decide) (by decide))) rfl ?_
        refine zb_go (zg_bipush 6 (by decide)) rfl ?_
        rw [c3]
        refine zb_br (zg_icmp_lt (tgt := 56) (by decide)) rfl (fun d2 => ?_) (fun d2 => ?_)
        · exact hY (decide_eq_true ((nI_ltI (b := 6) (by omega) (by decide)).mp d2))
        · have d2 : ¬ pR P < 6 := fun w => d2 (nI_lt (b := 6) w (by decide))
          have hin : ¬ ((2 : Int32) ≤ nI 1 ∧ nI 1 ≤ (4 : Int32)) := by decide
          refine zb_out ?_
          refine kX6_readItem_36 ?_
          refine zb_go (zg_iload_n rfl) rfl ?_
          refine zb_go (zg_iconst 2 (by decide)) rfl ?_
          refine zb_go (zg_iconst 4 (by decide)) rfl ?_
          refine zb_calls (r_X6_inF hin) lX6_87 rfl (by first | decide | omega) rfl (Nat.le_of_ble_eq_true rfl) rfl ?_
          refine zb_br (zg_if_eq (tgt := 60) (by decide)) rfl (fun d3 => ?_) (fun d3 => ?_)
          · exact hN (fun w => d2 (of_decide_eq_true w))
          · exact absurd rfl d3
    · have d0 : k = 0 := (nI_eq (b := 0) (by omega) (by decide)).mp d0
      subst d0
      have em : pMay P tob 0 = decide (pH P < 4) := rfl
      rw [em] at hN hY
      refine zb_go (zg_aload_n rfl) rfl ?_
      refine zb_go (zg_getfield fX6_13 (by first | decide | assumption | omega) (by repeat (first | assumption | exact z_up_self _ _ _ | refine (z_up_ne (by first | decide | omega)).trans ?_)) (by rfl)) rfl ?_
      refine zb_go (zg_iconst 1 (by decide)) rfl ?_
      refine zb_go (zi_iaload (by first | decide | assumption | omega) (by repeat (first | assumption | exact z_up_self _ _ _ | refine (z_up_ne (by first | decide | omega)).trans ?_)) (by first | assumption | exact zIx.nI (by omega) (by decide) | exact ⟨by decide, by decide⟩ | exact zIx.nI (k := 0) (by decide) (by decide) | exact zIx.nI (k := 1) (by decide) (by decide) | exact zIx.nI (k := 2) (by decide) (by decide) | exact zIx.nI (k := 3) (by decide) (by decide))) rfl ?_
      refine zb_go (zg_iconst 4 (by decide)) rfl ?_
      rw [c1]
      refine zb_br (zg_icmp_lt (tgt := 56) (by decide)) rfl (fun d1 => ?_) (fun d1 => ?_)
      · exact hY (decide_eq_true ((nI_ltI (b := 4) (by omega) (by decide)).mp d1))
      · have d1 : ¬ pH P < 4 := fun w => d1 (nI_lt (b := 4) w (by decide))
        refine zb_out ?_
        refine kX6_readItem_20 ?_
        refine zb_go (zg_iload_n rfl) rfl ?_
        refine zb_go (zg_iconst 1 (by decide)) rfl ?_
        refine zb_br (zg_icmp_ne (tgt := 36) (by decide)) rfl (fun d2 => ?_) (fun d2 => ?_)
        · have hin : ¬ ((2 : Int32) ≤ nI 0 ∧ nI 0 ≤ (4 : Int32)) := by decide
          refine kX6_readItem_36 ?_
          refine zb_go (zg_iload_n rfl) rfl ?_
          refine zb_go (zg_iconst 2 (by decide)) rfl ?_
          refine zb_go (zg_iconst 4 (by decide)) rfl ?_
          refine zb_calls (r_X6_inF hin) lX6_87 rfl (by first | decide | omega) rfl (Nat.le_of_ble_eq_true rfl) rfl ?_
          refine zb_br (zg_if_eq (tgt := 60) (by decide)) rfl (fun d3 => ?_) (fun d3 => ?_)
          · exact hN (fun w => d1 (of_decide_eq_true w))
          · exact absurd rfl d3
        · exact absurd d2 (by decide)
end
