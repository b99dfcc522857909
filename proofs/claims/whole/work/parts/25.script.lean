/-! SCRIPT (3): items -/
/-- cells 1 .. 4 and a parish's may differ -/
def zSame2 (q : Nat) (h h' : zH) : Prop := ∀ k, (k < 1 ∨ 4 < k) → (k < q ∨ q + 5 < k) → h' k = h k
theorem zSame2.rf {q : Nat} {h : zH} : zSame2 q h h := fun _ _ _ => rfl
theorem zSame2.trans {q : Nat} {h h1 h2 : zH} (a : zSame2 q h h1) (b : zSame2 q h1 h2) : zSame2 q h h2 := fun k hk hq => (b k hk hq).trans (a k hk hq)
theorem zSame.two {q : Nat} {h h1 : zH} (s : zSame 1 4 h h1) : zSame2 q h h1 := fun k hk _ => s k hk
theorem zSame.twoP {q : Nat} {h h1 : zH} (s : zSame q (q + 5) h h1) : zSame2 q h h1 := fun k _ hq => s k hq
theorem zSame2.in {q a : Nat} {h h1 : zH} {e : va_E} (s : zSame2 q h h1) (ha : (1 ≤ a ∧ a ≤ 4) ∨ (q ≤ a ∧ a ≤ q + 5)) : zSame2 q h (z_up h1 a e) := fun k hk hq => by
  rw [z_up_ne (by omega)]; exact s k hk hq
section
variable {K : zK} {l : Launch} {n p q i : Nat} {len : Nat} {f tx nu to : Nat → Int32} {h : zH} {fa pl x y : Int32} {P : zP} {tob : Nat → Bool}
theorem isScript.sameP {ln : Int32} {h1 : zH} (hs : isScript h ln pl fa tx nu to) (hq : 5 ≤ q) (s : zSame q (q + 5) h h1) : isScript h1 ln pl fa tx nu to :=
  ⟨(s 1 (by omega)).trans hs.1, (s 2 (by omega)).trans hs.2.1, (s 3 (by omega)).trans hs.2.2.1, (s 4 (by omega)).trans hs.2.2.2⟩
theorem r_X4_readNumbers {k : Nat} (hk : k < 5) (hs : isScript h (nI len) (nI i) (-1) tx nu to) (hl : len ≤ 200) (hi0 : i ≤ len) (hf : ∀ j, j < len → tx j = f j) : zRex K l 2 mX4_readNumbers [.ref 1, .int (nI k)] 59 h (fun v h' => v = none ∧ zSame 1 4 h h' ∧
    Sum.elim (fun x => ∃ k nu', k ≤ len ∧ isScript h' (nI len) (nI k) (nI x) tx nu' to) (fun r => ∃ nu', isScript h' (nI len) (nI r.2) (-1) tx nu' to ∧ ∀ t, t < r.1.length → nu' t = nI (r.1.getD t 0)) (pNums f len (pBounds k) i)) := by
  refine zRex.of (by decide) (Nat.le_of_ble_eq_true rfl) (fun Q hQ => ?_)
  obtain ⟨h1, h2, h3, h4⟩ := id hs
  -- one number alone
  have one : ∀ {lo hi : Nat} {h1 : zH}, pBounds k = [(lo, hi)] → zSame 1 4 h h1 → Sum.elim (fun x => ∃ k, k ≤ len ∧ isScript h1 (nI len) (nI k) (nI x) tx nu to) (fun q => isScript h1 (nI len) (nI q.2) (-1) tx (upd nu 0 (nI q.1)) to) (pNum f len lo hi i) → ∀ {w : Option Value}, w = none → Q w 59 h1 := by
    intro lo hi h1 hb hsm he w hw
    refine hQ _ _ ⟨hw, hsm, ?_⟩
    rw [hb]
    simp only [pNums]
    cases e : pNum f len lo hi i with
    | inl x =>
      rw [e] at he
      obtain ⟨k', hk', hs'⟩ := he
      exact ⟨k', nu, hk', hs'⟩
    | inr r =>
      obtain ⟨v, j⟩ := r
      rw [e] at he
      exact ⟨_, he, fun t ht => by
        have ht : t < 1 := ht
        rw [show t = 0 by omega, pk_us]; rfl⟩
  have absm : (-1 : Int32) ≠ -1 → False := fun z => z rfl
  refine kX4_readNumbers_0 ?_
  refine zb_go (zg_iload_n rfl) rfl ?_
  rcases (show k = 0 ∨ k = 1 ∨ k = 2 ∨ k = 3 ∨ k = 4 by omega) with rfl | rfl | rfl | rfl | rfl
  · refine zb_end (len := 31) (zg_tableIn 31 32 (by decide) (by decide) (by rfl) (by decide) ?_) rfl
    refine kX4_readNumbers_32 ?_
    refine zb_go (zg_aload_n rfl) rfl ?_
    refine zb_go (zg_iconst 0 (by decide)) rfl ?_
    refine zb_go (zg_iconst 1 (by decide)) rfl ?_
    refine zb_go (zg_iconst 3 (by decide)) rfl ?_
    refine zb_callvx (r_X4_readNumber (f := f) (ix := 0) (lo := 1) (hi := 3) hs hl hi0 hf (by decide) (by decide) (by decide)) lX4_96 (by repeat (first | assumption | exact z_up_self _ _ _ | refine (z_up_ne (by first | decide | omega)).trans ?_)) rfl rfl (by first | assumption | decide | omega) (by decide) rfl (Nat.le_of_ble_eq_true rfl) rfl ?_
    rintro v h1 ⟨rfl, hsm, ⟨z, -⟩ | ⟨-, he⟩⟩
    · exact absurd z (fun z => absm z)
    · refine zb_end (zg_goto (tgt := 105) (by decide) ?_) rfl
      refine kX4_readNumbers_105 ?_
      refine zb_end (zg_return rfl ?_) rfl
      exact one rfl hsm he rfl
  · have hb : pBounds 1 = [(0, 60), (0, 7), (0, 15), (0, 9)] := rfl
    have done : ∀ {h9 : zH} {x k9 : Nat} {nu9 : Nat → Int32}, pNums f len (pBounds 1) i = .inl x → zSame 1 4 h h9 → k9 ≤ len → isScript h9 (nI len) (nI k9) (nI x) tx nu9 to → ∀ {w : Option Value}, w = none → Q w 59 h9 := by
      intro h9 x k9 nu9 e hsm hk9 hs9 w hw
      refine hQ _ _ ⟨hw, hsm, ?_⟩
      rw [e]
      exact ⟨k9, nu9, hk9, hs9⟩
    refine zb_end (len := 31) (zg_tableIn 41 42 (by decide) (by decide) (by rfl) (by decide) ?_) rfl
    refine kX4_readNumbers_42 ?_
    refine zb_go (zg_aload_n rfl) rfl ?_
    refine zb_go (zg_iconst 0 (by decide)) rfl ?_
    refine zb_go (zg_iconst 0 (by decide)) rfl ?_
    refine zb_go (zg_bipush 60 (by decide)) rfl ?_
    refine zb_callvx (r_X4_readNumber (f := f) (ix := 0) (lo := 0) (hi := 60) hs hl hi0 hf (by decide) (by decide) (by decide)) lX4_96 (by repeat (first | assumption | exact z_up_self _ _ _ | refine (z_up_ne (by first | decide | omega)).trans ?_)) rfl rfl (by first | assumption | decide | omega) (by decide) rfl (Nat.le_of_ble_eq_true rfl) rfl ?_
    rintro v h1 ⟨rfl, hsm, ⟨z, -⟩ | ⟨-, he⟩⟩
    · exact absurd z (fun z => absm z)
    have p1 := pNum_le (f := f) (lo := 0) (hi := 60) hi0
    cases e1 : pNum f len 0 60 i with
    | inl x =>
      rw [e1] at he p1
      obtain ⟨k1, hk1, hs1⟩ := he
      have hx : x ≤ len := p1
      have eN : pNums f len (pBounds 1) i = .inl x := by rw [hb]; simp only [pNums, e1]
      have c1 := hs1.1
      refine zb_go (zg_aload_n rfl) rfl ?_
      refine zb_go (zg_iconst 1 (by decide)) rfl ?_
      refine zb_go (zg_iconst 0 (by decide)) rfl ?_
      refine zb_go (zg_bipush 7 (by decide)) rfl ?_
      refine zb_callvx (r_X4_readNumber (f := f) (ix := 1) (lo := 0) (hi := 7) hs1 hl hk1 hf (by decide) (by decide) (by decide)) lX4_96 (by repeat (first | assumption | exact z_up_self _ _ _ | refine (z_up_ne (by first | decide | omega)).trans ?_)) rfl rfl (by first | assumption | decide | omega) (by decide) rfl (Nat.le_of_ble_eq_true rfl) rfl ?_
      rintro v h9 ⟨rfl, hsm2, ⟨-, k1, hk1, hs1⟩ | ⟨z, -⟩⟩
      rotate_left
      · exact absurd z (z_ne1 (by omega))
      have hsm := hsm.trans hsm2
      have c1 := hs1.1
      refine zb_go (zg_aload_n rfl) rfl ?_
      refine zb_go (zg_iconst 2 (by decide)) rfl ?_
      refine zb_go (zg_iconst 0 (by decide)) rfl ?_
      refine zb_go (zg_bipush 15 (by decide)) rfl ?_
      refine zb_callvx (r_X4_readNumber (f := f) (ix := 2) (lo := 0) (hi := 15) hs1 hl hk1 hf (by decide) (by decide) (by decide)) lX4_96 (by repeat (first | assumption | exact z_up_self _ _ _ | refine (z_up_ne (by first | decide | omega)).trans ?_)) rfl rfl (by first | assumption | decide | omega) (by decide) rfl (Nat.le_of_ble_eq_true rfl) rfl ?_
      rintro v h9 ⟨rfl, hsm2, ⟨-, k1, hk1, hs1⟩ | ⟨z, -⟩⟩
      rotate_left
      · exact absurd z (z_ne1 (by omega))
      have hsm := hsm.trans hsm2
      have c1 := hs1.1
      refine zb_go (zg_aload_n rfl) rfl ?_
      refine zb_go (zg_iconst 3 (by decide)) rfl ?_
      refine zb_go (zg_iconst 0 (by decide)) rfl ?_
      refine zb_go (zg_bipush 9 (by decide)) rfl ?_
      refine zb_callvx (r_X4_readNumber (f := f) (ix := 3) (lo := 0) (hi := 9) hs1 hl hk1 hf (by decide) (by decide) (by decide)) lX4_96 (by repeat (first | assumption | exact z_up_self _ _ _ | refine (z_up_ne (by first | decide | omega)).trans ?_)) rfl rfl (by first | assumption | decide | omega) (by decide) rfl (Nat.le_of_ble_eq_true rfl) rfl ?_
      rintro v h9 ⟨rfl, hsm2, ⟨-, k1, hk1, hs1⟩ | ⟨z, -⟩⟩
      rotate_left
      · exact absurd z (z_ne1 (by omega))
      have hsm := hsm.trans hsm2
      have c1 := hs1.1
      refine zb_end (zg_goto (tgt := 105) (by decide) ?_) rfl
      refine kX4_readNumbers_105 ?_
      refine zb_end (zg_return rfl ?_) rfl
      exact done eN hsm hk1 hs1 rfl
    | inr r1 =>
      obtain ⟨v1, j1⟩ := r1
      rw [e1] at he p1
      obtain ⟨b1, b2, b3, b4⟩ := p1
      have he : isScript h1 (nI len) (nI j1) (-1) tx (upd nu 0 (nI v1)) to := he
      have c1 := he.1
      refine zb_go (zg_aload_n rfl) rfl ?_
      refine zb_go (zg_iconst 1 (by decide)) rfl ?_
      refine zb_go (zg_iconst 0 (by decide)) rfl ?_
      refine zb_go (zg_bipush 7 (by decide)) rfl ?_
      refine zb_callvx (r_X4_readNumber (f := f) (ix := 1) (lo := 0) (hi := 7) he hl b4 hf (by decide) (by decide) (by decide)) lX4_96 (by repeat (first | assumption | exact z_up_self _ _ _ | refine (z_up_ne (by first | decide | omega)).trans ?_)) rfl rfl (by first | assumption | decide | omega) (by decide) rfl (Nat.le_of_ble_eq_true rfl) rfl ?_
      rintro v h2 ⟨rfl, hsm2, ⟨z, -⟩ | ⟨-, he2⟩⟩
      · exact absurd z (fun z => absm z)
      have hsm := hsm.trans hsm2
      have p2 := pNum_le (f := f) (lo := 0) (hi := 7) b4
      cases e2 : pNum f len 0 7 j1 with
      | inl x =>
        rw [e2] at he2 p2
        obtain ⟨k1, hk1, hs1⟩ := he2
        have hx : x ≤ len := p2
        have eN : pNums f len (pBounds 1) i = .inl x := by rw [hb]; simp only [pNums, e1, e2]
        have c1 := hs1.1
        refine zb_go (zg_aload_n rfl) rfl ?_
        refine zb_go (zg_iconst 2 (by decide)) rfl ?_
        refine zb_go (zg_iconst 0 (by decide)) rfl ?_
        refine zb_go (zg_bipush 15 (by decide)) rfl ?_
        refine zb_callvx (r_X4_readNumber (f := f) (ix := 2) (lo := 0) (hi := 15) hs1 hl hk1 hf (by decide) (by decide) (by decide)) lX4_96 (by repeat (first | assumption | exact z_up_self _ _ _ | refine (z_up_ne (by first | decide | omega)).trans ?_)) rfl rfl (by first | assumption | decide | omega) (by decide) rfl (Nat.le_of_ble_eq_true rfl) rfl ?_
        rintro v h9 ⟨rfl, hsm2, ⟨-, k1, hk1, hs1⟩ | ⟨z, -⟩⟩
        rotate_left
        · exact absurd z (z_ne1 (by omega))
        have hsm := hsm.trans hsm2
        have c1 := hs1.1
        refine zb_go (zg_aload_n rfl) rfl ?_
        refine zb_go (zg_iconst 3 (by decide)) rfl ?_
        refine zb_go (zg_iconst 0 (by decide)) rfl ?_
        refine zb_go (zg_bipush 9 (by decide)) rfl ?_
        refine zb_callvx (r_X4_readNumber (f := f) (ix := 3) (lo := 0) (hi := 9) hs1 hl hk1 hf (by decide) (by decide) (by decide)) lX4_96 (by repeat (first | assumption | exact z_up_self _ _ _ | refine (z_up_ne (by first | decide | omega)).trans ?_)) rfl rfl (by first | assumption | decide | omega) (by decide) rfl (Nat.le_of_ble_eq_true rfl) rfl ?_
        rintro v h9 ⟨rfl, hsm2, ⟨-, k1, hk1, hs1⟩ | ⟨z, -⟩⟩
        rotate_left
        · exact absurd z (z_ne1 (by omega))
        have hsm := hsm.trans hsm2
        have c1 := hs1.1
        refine zb_end (zg_goto (tgt := 105) (by decide) ?_) rfl
        refine kX4_readNumbers_105 ?_
        refine zb_end (zg_return rfl ?_) rfl
        exact done eN hsm hk1 hs1 rfl
      | inr r2 =>
        obtain ⟨v2, j2⟩ := r2
        rw [e2] at he2 p2
        obtain ⟨d1, d2, d3, d4⟩ := p2
        have he2 : isScript h2 (nI len) (nI j2) (-1) tx (upd (upd nu 0 (nI v1)) 1 (nI v2)) to := he2
        have c1 := he2.1
        refine zb_go (zg_aload_n rfl) rfl ?_
        refine zb_go (zg_iconst 2 (by decide)) rfl ?_
        refine zb_go (zg_iconst 0 (by decide)) rfl ?_
        refine zb_go (zg_bipush 15 (by decide)) rfl ?_
        refine zb_callvx (r_X4_readNumber (f := f) (ix := 2) (lo := 0) (hi := 15) he2 hl d4 hf (by decide) (by decide) (by decide)) lX4_96 (by repeat (first | assumption | exact z_up_self _ _ _ | refine (z_up_ne (by first | decide | omega)).trans ?_)) rfl rfl (by first | assumption | decide | omega) (by decide) rfl (Nat.le_of_ble_eq_true rfl) rfl ?_
        rintro v h3 ⟨rfl, hsm2, ⟨z, -⟩ | ⟨-, he3⟩⟩
        · exact absurd z (fun z => absm z)
        have hsm := hsm.trans hsm2
        have p3 := pNum_le (f := f) (lo := 0) (hi := 15) d4
        cases e3 : pNum f len 0 15 j2 with
        | inl x =>
          rw [e3] at he3 p3
          obtain ⟨k1, hk1, hs1⟩ := he3
          have hx : x ≤ len := p3
          have eN : pNums f len (pBounds 1) i = .inl x := by rw [hb]; simp only [pNums, e1, e2, e3]
          have c1 := hs1.1
          refine zb_go (zg_aload_n rfl) rfl ?_
          refine zb_go (zg_iconst 3 (by decide)) rfl ?_
          refine zb_go (zg_iconst 0 (by decide)) rfl ?_
          refine zb_go (zg_bipush 9 (by decide)) rfl ?_
          refine zb_callvx (r_X4_readNumber (f := f) (ix := 3) (lo := 0) (hi := 9) hs1 hl hk1 hf (by decide) (by decide) (by decide)) lX4_96 (by repeat (first | assumption | exact z_up_self _ _ _ | refine (z_up_ne (by first | decide | omega)).trans ?_)) rfl rfl (by first | assumption | decide | omega) (by decide) rfl (Nat.le_of_ble_eq_true rfl) rfl ?_
          rintro v h9 ⟨rfl, hsm2, ⟨-, k1, hk1, hs1⟩ | ⟨z, -⟩⟩
          rotate_left
          · exact absurd z (z_ne1 (by omega))
          have hsm := hsm.trans hsm2
          have c1 := hs1.1
          refine zb_end (zg_goto (tgt := 105) (by decide) ?_) rfl
          refine kX4_readNumbers_105 ?_
          refine zb_end (zg_return rfl ?_) rfl
          exact done eN hsm hk1 hs1 rfl
        | inr r3 =>
          obtain ⟨v3, j3⟩ := r3
          rw [e3] at he3 p3
          obtain ⟨d1, d2, d3, d5⟩ := p3
          have he3 : isScript h3 (nI len) (nI j3) (-1) tx (upd (upd (upd nu 0 (nI v1)) 1 (nI v2)) 2 (nI v3)) to := he3
          have c1 := he3.1
          refine zb_go (zg_aload_n rfl) rfl ?_
          refine zb_go (zg_iconst 3 (by decide)) rfl ?_
          refine zb_go (zg_iconst 0 (by decide)) rfl ?_
          refine zb_go (zg_bipush 9 (by decide)) rfl ?_
          refine zb_callvx (r_X4_readNumber (f := f) (ix := 3) (lo := 0) (hi := 9) he3 hl d5 hf (by decide) (by decide) (by decide)) lX4_96 (by repeat (first | assumption | exact z_up_self _ _ _ | refine (z_up_ne (by first | decide | omega)).trans ?_)) rfl rfl (by first | assumption | decide | omega) (by decide) rfl (Nat.le_of_ble_eq_true rfl) rfl ?_
          rintro v h4 ⟨rfl, hsm2, ⟨z, -⟩ | ⟨-, he4⟩⟩
          · exact absurd z (fun z => absm z)
          have hsm := hsm.trans hsm2
          have p4 := pNum_le (f := f) (lo := 0) (hi := 9) d5
          refine zb_end (zg_goto (tgt := 105) (by decide) ?_) rfl
          refine kX4_readNumbers_105 ?_
          refine zb_end (zg_return rfl ?_) rfl
          cases e4 : pNum f len 0 9 j3 with
          | inl x =>
            rw [e4] at he4
            obtain ⟨k1, hk1, hs1⟩ := he4
            exact done (by rw [hb]; simp only [pNums, e1, e2, e3, e4]) hsm hk1 hs1 rfl
          | inr r4 =>
            obtain ⟨v4, j4⟩ := r4
            rw [e4] at he4
            refine hQ _ _ ⟨rfl, hsm, ?_⟩
            rw [show pNums f len (pBounds 1) i = .inr ([v1, v2, v3, v4], j4) by rw [hb]; simp only [pNums, e1, e2, e3, e4]]
            refine ⟨_, he4, fun t ht => ?_⟩
            have ht : t < 4 := ht
            rcases (show t = 0 ∨ t = 1 ∨ t = 2 ∨ t = 3 by omega) with rfl | rfl | rfl | rfl <;> rfl
  · refine zb_end (len := 31) (zg_tableIn 76 77 (by decide) (by decide) (by rfl) (by decide) ?_) rfl
    refine kX4_readNumbers_77 ?_
    refine zb_go (zg_aload_n rfl) rfl ?_
    refine zb_go (zg_iconst 0 (by decide)) rfl ?_
    refine zb_go (zg_iconst 0 (by decide)) rfl ?_
    refine zb_go (zg_bipush 60 (by decide)) rfl ?_
    refine zb_callvx (r_X4_readNumber (f := f) (ix := 0) (lo := 0) (hi := 60) hs hl hi0 hf (by decide) (by decide) (by decide)) lX4_96 (by repeat (first | assumption | exact z_up_self _ _ _ | refine (z_up_ne (by first | decide | omega)).trans ?_)) rfl rfl (by first | assumption | decide | omega) (by decide) rfl (Nat.le_of_ble_eq_true rfl) rfl ?_
    rintro v h1 ⟨rfl, hsm, ⟨z, -⟩ | ⟨-, he⟩⟩
    · exact absurd z (fun z => absm z)
    · refine zb_end (zg_goto (tgt := 105) (by decide) ?_) rfl
      refine kX4_readNumbers_105 ?_
      refine zb_end (zg_return rfl ?_) rfl
      exact one rfl hsm he rfl
  · refine zb_end (len := 31) (zg_tableIn 87 88 (by decide) (by decide) (by rfl) (by decide) ?_) rfl
    refine kX4_readNumbers_88 ?_
    refine zb_go (zg_aload_n rfl) rfl ?_
    refine zb_go (zg_iconst 0 (by decide)) rfl ?_
    refine zb_go (zg_iconst 1 (by decide)) rfl ?_
    refine zb_go (zg_iconst 4 (by decide)) rfl ?_
    refine zb_callvx (r_X4_readNumber (f := f) (ix := 0) (lo := 1) (hi := 4) hs hl hi0 hf (by decide) (by decide) (by decide)) lX4_96 (by repeat (first | assumption | exact z_up_self _ _ _ | refine (z_up_ne (by first | decide | omega)).trans ?_)) rfl rfl (by first | assumption | decide | omega) (by decide) rfl (Nat.le_of_ble_eq_true rfl) rfl ?_
    rintro v h1 ⟨rfl, hsm, ⟨z, -⟩ | ⟨-, he⟩⟩
    · exact absurd z (fun z => absm z)
    · refine zb_end (zg_goto (tgt := 105) (by decide) ?_) rfl
      refine kX4_readNumbers_105 ?_
      refine zb_end (zg_return rfl ?_) rfl
      exact one rfl hsm he rfl
  · refine zb_end (len := 31) (zg_tableOut 98 (Or.inr (by decide)) (by decide) ?_) rfl
    refine kX4_readNumbers_98 ?_
    refine zb_go (zg_aload_n rfl) rfl ?_
    refine zb_go (zg_iconst 0 (by decide)) rfl ?_
    refine zb_go (zg_iconst 0 (by decide)) rfl ?_
    refine zb_go (zg_iconst 3 (by decide)) rfl ?_
    refine zb_callvx (r_X4_readNumber (f := f) (ix := 0) (lo := 0) (hi := 3) hs hl hi0 hf (by decide) (by decide) (by decide)) lX4_96 (by repeat (first | assumption | exact z_up_self _ _ _ | refine (z_up_ne (by first | decide | omega)).trans ?_)) rfl rfl (by first | assumption | decide | omega) (by decide) rfl (Nat.le_of_ble_eq_true rfl) rfl ?_
    rintro v h1 ⟨rfl, hsm, ⟨z, -⟩ | ⟨-, he⟩⟩
    · exact absurd z (fun z => absm z)
    · refine zb_out ?_
      refine kX4_readNumbers_105 ?_
      refine zb_end (zg_return rfl ?_) rfl
      exact one rfl hsm he rfl
theorem r_X4_mayStand {k : Nat} (hk : k < 5) (hs : isScript h (nI len) pl fa tx nu to) (ht : ∀ j, j < 5 → to j = if tob j then 1 else 0) (hq : isPar h q P) (hqn : q + 5 < 59) (ok : okP P) : zRet K l 0 mX4_mayStand [.ref 1, .int (nI k), .ref q] 59 h (some (.int (if pMay P tob k then 1 else 0))) h := by
  refine zRet.of (by decide) (Nat.le_of_ble_eq_true rfl) (fun Q hQ => ?_)
  obtain ⟨h1, h2, h3, h4⟩ := id hs
  have hq1 := hq.1
  have o1 := ok.1
  have o2 := ok.2.1
  refine kX4_mayStand_0 ?_
  refine zb_go (zg_iload_n rfl) rfl ?_
  by_cases e0 : k = 0
  · subst e0
    have e : pMay P tob 0 = decide (pH P < 4) := rfl
    rw [e] at hQ
    refine zb_end (len := 27) (zg_lookup 27 28 (by decide) (by decide) (by decide) ?_) rfl
    refine kX4_mayStand_28 ?_
    refine zb_go (zg_aload_n rfl) rfl ?_
    refine zb_go (zg_getfield fX4_90 (by first | assumption | decide | omega) (by repeat (first | assumption | exact z_up_self _ _ _ | refine (z_up_ne (by first | decide | omega)).trans ?_)) (by rfl)) rfl ?_
    refine zb_go (zg_iconst 4 (by decide)) rfl ?_
    refine zb_br (zg_icmp_ge (tgt := 40) (by decide)) rfl (fun c => ?_) (fun c => ?_)
    · have c := (nI_leI (a := 4) (by decide) (by omega)).mp c
      rw [if_neg (by simp; omega)] at hQ
      refine kX4_mayStand_40 ?_
      refine zb_go (zg_iconst 0 (by decide)) rfl ?_
      refine zb_out ?_
      refine kX4_mayStand_41 ?_
      refine zb_end (zg_ireturn rfl (by rfl) ?_) rfl
      exact hQ
    · have c : pH P < 4 := Nat.not_le.mp (fun q => c (nI_le q (by omega)))
      rw [if_pos (decide_eq_true c)] at hQ
      refine zb_go (zg_iconst 1 (by decide)) rfl ?_
      refine zb_end (zg_goto (tgt := 41) (by decide) ?_) rfl
      refine kX4_mayStand_41 ?_
      refine zb_end (zg_ireturn rfl (by rfl) ?_) rfl
      exact hQ
  · by_cases e1 : k = 1
    · subst e1
      have e : pMay P tob 1 = decide (pR P < 6) := rfl
      rw [e] at hQ
      refine zb_end (len := 27) (zg_lookup 41 42 (by decide) (by decide) (by decide) ?_) rfl
      refine kX4_mayStand_42 ?_
      refine zb_go (zg_aload_n rfl) rfl ?_
      refine zb_go (zg_getfield fX4_93 (by first | assumption | decide | omega) (by repeat (first | assumption | exact z_up_self _ _ _ | refine (z_up_ne (by first | decide | omega)).trans ?_)) (by rfl)) rfl ?_
      refine zb_go (zg_bipush 6 (by decide)) rfl ?_
      refine zb_br (zg_icmp_ge (tgt := 55) (by decide)) rfl (fun c => ?_) (fun c => ?_)
      · have c := (nI_leI (a := 6) (by decide) (by omega)).mp c
        rw [if_neg (by simp; omega)] at hQ
        refine kX4_mayStand_55 ?_
        refine zb_go (zg_iconst 0 (by decide)) rfl ?_
        refine zb_out ?_
        refine kX4_mayStand_56 ?_
        refine zb_end (zg_ireturn rfl (by rfl) ?_) rfl
        exact hQ
      · have c : pR P < 6 := Nat.not_le.mp (fun q => c (nI_le q (by omega)))
        rw [if_pos (decide_eq_true c)] at hQ
        refine zb_go (zg_iconst 1 (by decide)) rfl ?_
        refine zb_end (zg_goto (tgt := 56) (by decide) ?_) rfl
        refine kX4_mayStand_56 ?_
        refine zb_end (zg_ireturn rfl (by rfl) ?_) rfl
        exact hQ
    · have e : pMay P tob k = !tob k := by simp [pMay, e0, e1]
      rw [e] at hQ
      refine zb_end (len := 27) (zg_lookup 56 57 (by decide) (by rcases (show k = 2 ∨ k = 3 ∨ k = 4 by omega) with rfl | rfl | rfl <;> decide) (by decide) ?_) rfl
      refine kX4_mayStand_57 ?_
      refine zb_go (zg_aload_n rfl) rfl ?_
      refine zb_go (zg_getfield fX4_29 (by first | assumption | decide | omega) (by repeat (first | assumption | exact z_up_self _ _ _ | refine (z_up_ne (by first | decide | omega)).trans ?_)) (by rfl)) rfl ?_
      refine zb_go (zg_iload_n rfl) rfl ?_
      refine zb_go (zi_zaload (by first | assumption | decide | omega) (by repeat (first | assumption | exact z_up_self _ _ _ | refine (z_up_ne (by first | decide | omega)).trans ?_)) (zIx.nI hk (by decide))) rfl ?_
      rw [ht k hk]
      cases hb : tob k with
      | false =>
        rw [hb] at hQ
        refine zb_br (zg_if_ne (tgt := 70) (by decide)) rfl (fun c => ?_) (fun c => ?_)
        · exact absurd rfl c
        · refine zb_go (zg_iconst 1 (by decide)) rfl ?_
          refine zb_end (zg_goto (tgt := 71) (by decide) ?_) rfl
          refine kX4_mayStand_71 ?_
          refine zb_end (zg_ireturn rfl (by rfl) ?_) rfl
          exact hQ
      | true =>
        rw [hb] at hQ
        refine zb_br (zg_if_ne (tgt := 70) (by decide)) rfl (fun c => ?_) (fun c => ?_)
        · refine kX4_mayStand_70 ?_
          refine zb_go (zg_iconst 0 (by decide)) rfl ?_
          refine zb_out ?_
          refine kX4_mayStand_71 ?_
          refine zb_end (zg_ireturn rfl (by rfl) ?_) rfl
          exact hQ
        · exact absurd c (by decide)
end
