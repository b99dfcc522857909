/-! THE MODEL (7): wayToRing, findCrews -/
theorem z_orow {row b r : Nat} (h : row < 4 ^ r) : row ||| b <<< (2 * r) = row + b * 4 ^ r := by
  have e : (4 : Nat) ^ r = 2 ^ (2 * r) := by rw [Nat.pow_mul]
  rw [e] at h ⊢
  rw [Nat.or_comm, ← Nat.shiftLeft_add_eq_or_of_lt h, Nat.shiftLeft_eq, Nat.add_comm]
theorem z_27 : ∀ m, m ≤ 3 → ∀ c, c < 27 → c * 27 / 3 ^ m = c * 3 ^ (3 - m) := by decide +kernel
theorem z_code : ∀ m, m ≤ 3 → 3 ^ m ≤ 27 ∧ 1 ≤ 3 ^ m := by decide +kernel
theorem z_27b : ∀ m, m ≤ 3 → ∀ c, c < 27 → c < 3 ^ m → c * 3 ^ (3 - m) < 27 := by
  intro m hm c _ hc
  rcases (show m = 0 ∨ m = 1 ∨ m = 2 ∨ m = 3 by omega) with rfl | rfl | rfl | rfl
  · have hc : c < 1 := hc
    show c * 27 < 27
    omega
  · have hc : c < 3 := hc
    show c * 9 < 27
    omega
  · have hc : c < 9 := hc
    show c * 3 < 27
    omega
  · have hc : c < 27 := hc
    show c * 1 < 27
    omega
theorem wF_spec {F : Nat → Option Nat} {x : Nat} : ∀ {n c : Nat}, c < n → F c = some x → (∀ i, i < c → F i = none) → wF F n = some x
  | 0, c, h, _, _ => by omega
  | n + 1, c, h, h1, h2 => by
    show (match wF F n with | some x => some x | none => F n) = some x
    by_cases q : c = n
    · subst q
      have : wF F c = none := by
        rw [wF_congr (F' := fun _ => none) c (fun i hi => h2 i hi), wF_none]
      rw [this]; exact h1
    · rw [wF_spec (n := n) (by omega) h1 h2]
section
variable {K : zK} {l : Launch} {n p q r g : Nat} {h h1 : zH} {x y z : Int32} {G : zS} {P : zP} {f : Nat → Int32} {T : zT}
set_option maxHeartbeats 8000000 in
theorem r_X6_wayToRing {s : Nat} (hM : mCore h P f) (okp : okP P) (hg : g < pH P) (hs : s < 2 ^ pR P) (hn : zpop s ≤ 3) : zRet K l 1 mX6_wayToRing [.ref 34, .int (nI g), .int (nI s)] 59 h (some (.int (oI (zrow P g s)))) h := by
  refine zRet.of (by decide) (Nat.le_of_ble_eq_true rfl) (fun Q hQ => ?_)
  obtain ⟨⟨tr, ty, ⟨at_, st, so, va, fa, to, mo, wa, fe, ev⟩, h1⟩, hP, h46⟩ := id hM
  have h1 : h 34 = .inr _ := h1
  obtain ⟨⟨f1, a1, b1⟩, ⟨f2, a2, b2⟩, ⟨f3, a3, b3⟩, ⟨f4, a4, b4⟩, ⟨f5, a5, b5⟩, ⟨f6, a6, b6⟩, ⟨f7, a7, b7⟩, ⟨f8, a8⟩, ⟨f9, a9, b9⟩, ⟨f10, a10, b10⟩⟩ := id hP
  have kH := okp.1
  have kR := okp.2.1
  have hs64 : s < 64 := Nat.lt_of_lt_of_le hs (Nat.pow_le_pow_right (by decide) kR)
  have hg4 : g < 4 := by omega
  have hw := okp.2.2.2.2.2.1 g hg
  have i8 : zIx (nI g) 8 g := zIx.nI (by omega) (by decide)
  obtain ⟨m, em⟩ : ∃ m, zpop s = m := ⟨_, rfl⟩
  rw [em] at hn
  obtain ⟨k1, k2⟩ := z_code m hn
  rw [zrow, if_pos hg, em] at hQ
  have hz := zTry_first (P := P) (g := g) (s := s) 6 (by decide) m (by rw [hP_6, em]) hn 0
  have no : ∀ c : Nat, ∀ r, r < 6 → ∀ (q tk row b : Int32), zGo K l 1 mX6_wayToRing 211 [(0, .ref 34), (1, .int (nI g)), (2, .int (nI s)), (3, .int (nI m)), (4, .int (nI (3 ^ m))), (5, .int (nI c))] [] 59 h 0 0 Q → zGo K l 1 mX6_wayToRing 171 [(0, .ref 34), (1, .int (nI g)), (2, .int (nI s)), (3, .int (nI m)), (4, .int (nI (3 ^ m))), (5, .int (nI c)), (6, .int q), (7, .int tk), (8, .int row), (9, .int 1), (10, .int (nI r)), (11, .int b)] [] 59 h 0 0 Q := by
    intro c r hr q tk row b k
    refine kX6_wayToRing_171 ?_
    refine zb_go (zg_iconst 0 (by decide)) rfl ?_
    refine zb_out ?_
    refine kX6_wayToRing_172 ?_
    refine zb_go (zg_istore (by decide)) rfl ?_
    refine zb_go (zg_iload rfl) rfl ?_
    refine zb_go (zg_iconst 1 (by decide)) rfl ?_
    refine zb_go (zg_iload rfl) rfl ?_
    refine zb_go zg_ishl rfl ?_
    refine zb_go zg_ior rfl ?_
    refine zb_go (zg_istore (by decide)) rfl ?_
    refine zb_go (zg_iload rfl) rfl ?_
    refine zb_go (zg_iload rfl) rfl ?_
    refine zb_go (zg_iconst 1 (by decide)) rfl ?_
    refine zb_go zg_iadd rfl ?_
    refine zb_go (zg_iconst 2 (by decide)) rfl ?_
    refine zb_go (zg_iload rfl) rfl ?_
    refine zb_go zg_imul rfl ?_
    refine zb_go zg_ishl rfl ?_
    refine zb_go zg_ior rfl ?_
    refine zb_go (zg_istore (by decide)) rfl ?_
    refine zb_out ?_
    refine kX6_wayToRing_197 ?_
    refine zb_go (zg_iinc 1 (by decide) rfl (by decide)) rfl ?_
    refine zb_end (zg_goto (tgt := 82) (by decide) ?_) rfl
    refine kX6_wayToRing_82 ?_
    refine zb_go (zg_iload rfl) rfl ?_
    refine zb_go (zg_bipush 6 (by decide)) rfl ?_
    refine zb_br (zg_icmp_ge (tgt := 203) (by decide)) rfl (fun d1 => ?_) (fun d1 => ?_)
    · refine kX6_wayToRing_203 ?_
      refine zb_go (zg_iload rfl) rfl ?_
      refine zb_br (zg_if_eq (tgt := 211) (by decide)) rfl (fun d2 => ?_) (fun d2 => ?_)
      · refine zg_keep [0, 1, 2, 3, 4, 5] ?_
        exact k
      · exact absurd rfl d2
    · refine zb_go (zg_iload rfl) rfl ?_
      refine zb_br (zg_if_eq (tgt := 203) (by decide)) rfl (fun d2 => ?_) (fun d2 => ?_)
      · refine kX6_wayToRing_203 ?_
        refine zb_go (zg_iload rfl) rfl ?_
        refine zb_br (zg_if_eq (tgt := 211) (by decide)) rfl (fun d3 => ?_) (fun d3 => ?_)
        · refine zg_keep [0, 1, 2, 3, 4, 5] ?_
          exact k
        · exact absurd rfl d3
      · exact absurd rfl d2
  have il : ∀ c : Nat, ∀ j, j ≤ 6 → ∀ tk q row, tk < 8 → q < 27 → row < 4 ^ (6 - j) → (∀ x, zTry P g s j tk q = some x → Q (some (.int (nI (row + x)))) 59 h) → (zTry P g s j tk q = none → zGo K l 1 mX6_wayToRing 211 [(0, .ref 34), (1, .int (nI g)), (2, .int (nI s)), (3, .int (nI m)), (4, .int (nI (3 ^ m))), (5, .int (nI c))] [] 59 h 0 0 Q) → zGo K l 1 mX6_wayToRing 82 [(0, .ref 34), (1, .int (nI g)), (2, .int (nI s)), (3, .int (nI m)), (4, .int (nI (3 ^ m))), (5, .int (nI c)), (6, .int (nI q)), (7, .int (nI tk)), (8, .int (nI row)), (9, .int 1), (10, .int (nI (6 - j)))] [] 59 h 0 0 Q := by
    intro c j
    induction j with
    | zero =>
      intro _ tk q row htk hq hrow hret hnx
      refine kX6_wayToRing_82 ?_
      refine zb_go (zg_iload rfl) rfl ?_
      refine zb_go (zg_bipush 6 (by decide)) rfl ?_
      refine zb_br (zg_icmp_ge (tgt := 203) (by decide)) rfl (fun d1 => ?_) (fun d1 => ?_)
      · refine kX6_wayToRing_203 ?_
        refine zb_go (zg_iload rfl) rfl ?_
        refine zb_br (zg_if_eq (tgt := 211) (by decide)) rfl (fun d2 => ?_) (fun d2 => ?_)
        · exact absurd d2 (by decide)
        · refine zb_go (zg_iload rfl) rfl ?_
          refine zb_end (zg_ireturn rfl (by rfl) ?_) rfl
          exact hret 0 rfl
      · exact absurd (by decide) d1
    | succ j ih =>
      intro hj tk q row htk hq hrow hret hnx
      rw [show 6 - (j + 1) = 5 - j by omega] at hrow ⊢
      have ih := ih (by omega)
      rw [show 6 - j = (5 - j) + 1 by omega] at ih
      refine kX6_wayToRing_82 ?_
      refine zb_go (zg_iload rfl) rfl ?_
      refine zb_go (zg_bipush 6 (by decide)) rfl ?_
      refine zb_br (zg_icmp_ge (tgt := 203) (by decide)) rfl (fun d1 => ?_) (fun d1 => ?_)
      · exact absurd d1 (nI_ge (a := 5 - j) (b := 6) (by omega) (by decide))
      · refine zb_go (zg_iload rfl) rfl ?_
        refine zb_br (zg_if_eq (tgt := 203) (by decide)) rfl (fun d2 => ?_) (fun d2 => ?_)
        · exact absurd d2 (by decide)
        · refine zb_go (zg_iload_n rfl) rfl ?_
          refine zb_go (zg_iload rfl) rfl ?_
          refine zb_go zg_ishr rfl ?_
          refine zb_go (zg_iconst 1 (by decide)) rfl ?_
          refine zb_go zg_iand rfl ?_
          rw [z_bit (by omega) (by omega)]
          refine zb_go (zg_iconst 1 (by decide)) rfl ?_
          refine zb_br (zg_icmp_ne (tgt := 197) (by decide)) rfl (fun d3 => ?_) (fun d3 => ?_)
          · have hb : ¬ s.testBit (5 - j) = true := fun w => by rw [if_pos w] at d3; exact d3 rfl
            simp only [zTry, if_neg hb] at hret hnx
            refine kX6_wayToRing_197 ?_
            refine zb_go (zg_iinc 1 (by decide) rfl (by decide)) rfl ?_
            refine zb_end (zg_goto (tgt := 82) (by decide) ?_) rfl
            rw [nI_1]
            exact ih tk q row htk hq (by rw [Nat.pow_succ]; omega) hret hnx
          · have hb : s.testBit (5 - j) = true := by
              rcases Bool.eq_false_or_eq_true (s.testBit (5 - j)) with w | w
              · exact w
              · rw [if_neg (by rw [w]; decide)] at d3; exact absurd d3 (by decide)
            simp only [zTry, if_pos hb] at hret hnx
            have hr : 5 - j < pR P := Nat.lt_of_not_le fun w => by
              have := Nat.testBit_lt_two_pow (Nat.lt_of_lt_of_le hs (Nat.pow_le_pow_right (by decide) w))
              rw [hb] at this; cases this
            have hbe := (okp.2.2.2.2.2.2 (5 - j) hr).2.1
            have i12 : zIx (nI (5 - j)) 12 (5 - j) := zIx.nI (by omega) (by decide)
            obtain ⟨b, eb⟩ : ∃ b, q / 9 = b := ⟨_, rfl⟩
            have hb3 : b < 3 := by omega
            rw [eb] at hret hnx
            have bad : ¬ (zdif (sBells P (5 - j) g) tk).testBit b = true → zGo K l 1 mX6_wayToRing 171 [(0, .ref 34), (1, .int (nI g)), (2, .int (nI s)), (3, .int (nI m)), (4, .int (nI (3 ^ m))), (5, .int (nI c)), (6, .int (nI (q % 9 * 3))), (7, .int (nI tk)), (8, .int (nI row)), (9, .int 1), (10, .int (nI (5 - j))), (11, .int (nI b))] [] 59 h 0 0 Q := fun w => by
              refine no c (5 - j) (by omega) _ _ _ _ (hnx ?_)
              rw [if_neg w]
            have hbt : (zdif (sBells P (5 - j) g) tk).testBit b = true ↔ b < pW P g ∧ tk.testBit b = false ∧ (pBe P (5 - j)).testBit b = true ∧ (pBu P (5 - j)).testBit g = false := by
              rw [zdif_bit, Bool.and_eq_true, sBells_bit, Bool.not_eq_true']
              exact ⟨fun w => ⟨w.1.2.2, w.2, w.1.2.1, w.1.1.2.2⟩, fun w => ⟨⟨⟨hr, hg, w.2.2.2⟩, w.2.2.1, w.1⟩, w.2.1⟩⟩
            refine zb_go (zg_iload rfl) rfl ?_
            refine zb_go (zg_bipush 9 (by decide)) rfl ?_
            refine zb_go (zg_idiv (nI_ne0 (n := 9) (by decide) (by decide))) rfl ?_
            rw [show (9 : Int32) = nI 9 from rfl, pk_div (by omega) (by decide) (by decide), eb]
            refine zb_go (zg_istore (by decide)) rfl ?_
            refine zb_go (zg_iload rfl) rfl ?_
            refine zb_go (zg_bipush 9 (by decide)) rfl ?_
            refine zb_go (zg_irem (nI_ne0 (n := 9) (by decide) (by decide))) rfl ?_
            rw [show (9 : Int32) = nI 9 from rfl, pk_rem (by omega) (by decide) (by decide)]
            refine zb_go (zg_iconst 3 (by decide)) rfl ?_
            refine zb_go zg_imul rfl ?_
            rw [show (3 : Int32) = nI 3 from rfl, pk_mul]
            refine zb_go (zg_istore (by decide)) rfl ?_
            refine zb_go (zg_iload rfl) rfl ?_
            refine zb_go (zg_aload_n rfl) rfl ?_
            refine zb_go (zg_getfield fX6_17 (by first | decide | assumption | omega) (by repeat (first | assumption | exact z_up_self _ _ _ | refine (z_up_ne (by first | decide | omega)).trans ?_)) (by rfl)) rfl ?_
            refine zb_go (zg_iload_n rfl) rfl ?_
            refine zb_go (zi_iaload (by first | decide | assumption | omega) (by repeat (first | assumption | exact z_up_self _ _ _ | refine (z_up_ne (by first | decide | omega)).trans ?_)) i8) rfl ?_
            rw [b2 g hg]
            refine zb_br (zg_icmp_ge (tgt := 171) (by decide)) rfl (fun d4 => ?_) (fun d4 => ?_)
            · have d4 := (nI_leI (by omega) (by omega)).mp d4
              exact bad (fun w => by have := (hbt.mp w).1; omega)
            · have d4 : b < pW P g := by
                rcases Nat.lt_or_ge b (pW P g) with w | w
                · exact w
                · exact absurd (nI_le w (by omega)) d4
              refine zb_go (zg_iload rfl) rfl ?_
              refine zb_go (zg_iload rfl) rfl ?_
              refine zb_go zg_ishr rfl ?_
              refine zb_go (zg_iconst 1 (by decide)) rfl ?_
              refine zb_go zg_iand rfl ?_
              rw [z_bit (by omega) (by omega)]
              refine zb_br (zg_if_ne (tgt := 171) (by decide)) rfl (fun d5 => ?_) (fun d5 => ?_)
              · exact bad (fun w => by have := (hbt.mp w).2.1; rw [this] at d5; exact d5 rfl)
              · have d5 : tk.testBit b = false := by
                  rcases Bool.eq_false_or_eq_true (tk.testBit b) with w | w
                  · rw [if_pos w] at d5; exact absurd d5 (by decide)
                  · exact w
                refine zb_go (zg_aload_n rfl) rfl ?_
                refine zb_go (zg_getfield fX6_26 (by first | decide | assumption | omega) (by repeat (first | assumption | exact z_up_self _ _ _ | refine (z_up_ne (by first | decide | omega)).trans ?_)) (by rfl)) rfl ?_
                refine zb_go (zg_iload rfl) rfl ?_
                refine zb_go (zi_iaload (by first | decide | assumption | omega) (by repeat (first | assumption | exact z_up_self _ _ _ | refine (z_up_ne (by first | decide | omega)).trans ?_)) i12) rfl ?_
                rw [b5 _ hr]
                refine zb_go (zg_iload rfl) rfl ?_
                refine zb_go zg_ishr rfl ?_
                refine zb_go (zg_iconst 1 (by decide)) rfl ?_
                refine zb_go zg_iand rfl ?_
                rw [z_bit (by omega) (by omega)]
                refine zb_go (zg_iconst 1 (by decide)) rfl ?_
                refine zb_br (zg_icmp_ne (tgt := 171) (by decide)) rfl (fun d6 => ?_) (fun d6 => ?_)
                · exact bad (fun w => by have := (hbt.mp w).2.2.1; rw [if_pos this] at d6; exact d6 rfl)
                · have d6 : (pBe P (5 - j)).testBit b = true := by
                    rcases Bool.eq_false_or_eq_true ((pBe P (5 - j)).testBit b) with w | w
                    · exact w
                    · rw [if_neg (by rw [w]; decide)] at d6; exact absurd d6 (by decide)
                  refine zb_go (zg_aload_n rfl) rfl ?_
                  refine zb_go (zg_iload rfl) rfl ?_
                  refine zb_go (zg_iload_n rfl) rfl ?_
                  refine zb_callv (r_X6_isBusy hM okp hr hg4) lX6_156 (by repeat (first | assumption | exact z_up_self _ _ _ | refine (z_up_ne (by first | decide | omega)).trans ?_)) rfl rfl (by first | decide | assumption | omega) (by first | decide | omega) rfl (Nat.le_of_ble_eq_true rfl) rfl ?_
                  refine zb_br (zg_if_ne (tgt := 171) (by decide)) rfl (fun d7 => ?_) (fun d7 => ?_)
                  · have d7 := zb_n.mp d7
                    exact bad (fun w => by have := (hbt.mp w).2.2.2; rw [this] at d7; cases d7)
                  · have d7 := zb_0.mp d7
                    have d7 : (pBu P (5 - j)).testBit g = false := by simpa using d7
                    have yes := hbt.mpr ⟨d4, d5, d6, d7⟩
                    rw [if_pos yes] at hret hnx
                    refine zb_go (zg_iconst 1 (by decide)) rfl ?_
                    refine zb_end (zg_goto (tgt := 172) (by decide) ?_) rfl
                    refine kX6_wayToRing_172 ?_
                    refine zb_go (zg_istore (by decide)) rfl ?_
                    refine zb_go (zg_iload rfl) rfl ?_
                    refine zb_go (zg_iconst 1 (by decide)) rfl ?_
                    refine zb_go (zg_iload rfl) rfl ?_
                    refine zb_go zg_ishl rfl ?_
                    refine zb_go zg_ior rfl ?_
                    refine zb_go (zg_istore (by decide)) rfl ?_
                    refine zb_go (zg_iload rfl) rfl ?_
                    refine zb_go (zg_iload rfl) rfl ?_
                    refine zb_go (zg_iconst 1 (by decide)) rfl ?_
                    refine zb_go zg_iadd rfl ?_
                    refine zb_go (zg_iconst 2 (by decide)) rfl ?_
                    refine zb_go (zg_iload rfl) rfl ?_
                    refine zb_go zg_imul rfl ?_
                    refine zb_go zg_ishl rfl ?_
                    refine zb_go zg_ior rfl ?_
                    refine zb_go (zg_istore (by decide)) rfl ?_
                    refine zb_out ?_
                    refine kX6_wayToRing_197 ?_
                    refine zb_go (zg_iinc 1 (by decide) rfl (by decide)) rfl ?_
                    refine zb_end (zg_goto (tgt := 82) (by decide) ?_) rfl
                    rw [show (1 : Int32) <<< (nI b &&& 31) = nI (1 <<< b) from z_shl (a := 1) (by omega), z_or, nI_1, show (2 : Int32) * nI (5 - j) = nI (2 * (5 - j)) from pk_mul 2 _, z_shl (by omega), z_or, z_orow hrow, nI_1]
                    refine zg_keep [0, 1, 2, 3, 4, 5, 6, 7, 8, 9, 10] ?_
                    have htk2 : tk ||| 1 <<< b < 8 := Nat.or_lt_two_pow (n := 3) htk (by
                      rcases (show b = 0 ∨ b = 1 ∨ b = 2 by omega) with rfl | rfl | rfl <;> decide)
                    have hpow : 4 ^ (5 - j + 1) = 4 ^ (5 - j) * 4 := Nat.pow_succ ..
                    have hmul : (b + 1) * 4 ^ (5 - j) ≤ 3 * 4 ^ (5 - j) := Nat.mul_le_mul_right _ (by omega)
                    refine ih (tk ||| 1 <<< b) (q % 9 * 3) (row + (b + 1) * 4 ^ (5 - j)) htk2 (by omega) (by omega) (fun x hx => ?_) (fun hx => ?_)
                    · have := hret (x + (b + 1) * 4 ^ (5 - j)) (by rw [hx]; rfl)
                      rw [show row + (b + 1) * 4 ^ (5 - j) + x = row + (x + (b + 1) * 4 ^ (5 - j)) by omega]
                      exact this
                    · exact hnx (by rw [hx]; rfl)
  have lp : ∀ c, c ≤ 3 ^ m → (∀ i, i < c → m ≤ pW P g → zTry P g s 6 0 (i * 3 ^ (3 - m)) = none) → zGo K l 1 mX6_wayToRing 39 [(0, .ref 34), (1, .int (nI g)), (2, .int (nI s)), (3, .int (nI m)), (4, .int (nI (3 ^ m))), (5, .int (nI c))] [] 59 h 0 0 Q := by
    refine z_down (3 ^ m) (fun c hc ih hno => ?_)
    refine kX6_wayToRing_39 ?_
    refine zb_go (zg_iload rfl) rfl ?_
    refine zb_go (zg_iload rfl) rfl ?_
    refine zb_br (zg_icmp_ge (tgt := 217) (by decide)) rfl (fun d0 => ?_) (fun d0 => ?_)
    · obtain rfl := z_is_le (by omega) hc d0
      have e : (if m ≤ pW P g then zseat P g s 6 0 else none) = none := by
        by_cases q : m ≤ pW P g
        · rw [if_pos q, hz, wF_congr (F' := fun _ => none) _ (fun i hi => hno i hi q), wF_none]
        · rw [if_neg q]
      rw [e] at hQ
      refine kX6_wayToRing_217 ?_
      refine zb_go (zg_bipush (-9) (by decide)) rfl ?_
      refine zb_end (zg_ireturn rfl (by rfl) ?_) rfl
      exact hQ
    · have hc3 := z_not_le (by omega) hc d0
      refine zb_go (zg_iload rfl) rfl ?_
      refine zb_go (zg_bipush 27 (by decide)) rfl ?_
      refine zb_go zg_imul rfl ?_
      refine zb_go (zg_iload rfl) rfl ?_
      rw [show (27 : Int32) = nI 27 from rfl, pk_mul]
      refine zb_go (zg_idiv (nI_ne0 (by omega) (by omega))) rfl ?_
      rw [pk_div (by omega) (by omega) (by omega), z_27 m hn c (by omega)]
      refine zb_go (zg_istore (by decide)) rfl ?_
      refine zb_go (zg_iconst 0 (by decide)) rfl ?_
      refine zb_go (zg_istore (by decide)) rfl ?_
      refine zb_go (zg_iconst 0 (by decide)) rfl ?_
      refine zb_go (zg_istore (by decide)) rfl ?_
      refine zb_go (zg_iload_n rfl) rfl ?_
      refine zb_go (zg_aload_n rfl) rfl ?_
      refine zb_go (zg_getfield fX6_17 (by first | decide | assumption | omega) (by repeat (first | assumption | exact z_up_self _ _ _ | refine (z_up_ne (by first | decide | omega)).trans ?_)) (by rfl)) rfl ?_
      refine zb_go (zg_iload_n rfl) rfl ?_
      refine zb_go (zi_iaload (by first | decide | assumption | omega) (by repeat (first | assumption | exact z_up_self _ _ _ | refine (z_up_ne (by first | decide | omega)).trans ?_)) i8) rfl ?_
      rw [b2 g hg]
      refine zb_br (zg_icmp_gt (tgt := 76) (by decide)) rfl (fun d1 => ?_) (fun d1 => ?_)
      · have d1 := (nI_ltI (by omega) (by omega)).mp d1
        refine kX6_wayToRing_76 ?_
        refine zb_go (zg_iconst 0 (by decide)) rfl ?_
        refine zb_out ?_
        refine kX6_wayToRing_77 ?_
        refine zb_go (zg_istore (by decide)) rfl ?_
        refine zb_go (zg_iconst 0 (by decide)) rfl ?_
        refine zb_go (zg_istore (by decide)) rfl ?_
        refine zb_out ?_
        refine kX6_wayToRing_82 ?_
        refine zb_go (zg_iload rfl) rfl ?_
        refine zb_go (zg_bipush 6 (by decide)) rfl ?_
        refine zb_br (zg_icmp_ge (tgt := 203) (by decide)) rfl (fun d2 => ?_) (fun d2 => ?_)
        · exact absurd d2 (by decide)
        · refine zb_go (zg_iload rfl) rfl ?_
          refine zb_br (zg_if_eq (tgt := 203) (by decide)) rfl (fun d3 => ?_) (fun d3 => ?_)
          · refine kX6_wayToRing_203 ?_
            refine zb_go (zg_iload rfl) rfl ?_
            refine zb_br (zg_if_eq (tgt := 211) (by decide)) rfl (fun d4 => ?_) (fun d4 => ?_)
            · refine kX6_wayToRing_211 ?_
              refine zb_go (zg_iinc 1 (by decide) rfl (by decide)) rfl ?_
              refine zb_end (zg_goto (tgt := 39) (by decide) ?_) rfl
              rw [nI_1]
              refine zg_keep [0, 1, 2, 3, 4, 5] ?_
              exact ih hc3 (fun i hi q => by omega)
            · exact absurd rfl d4
          · exact absurd rfl d3
      · have d1 : m ≤ pW P g := by
          rcases Nat.lt_or_ge (pW P g) m with w | w
          · exact absurd (nI_lt w (by omega)) d1
          · exact w
        refine zb_go (zg_iconst 1 (by decide)) rfl ?_
        refine zb_end (zg_goto (tgt := 77) (by decide) ?_) rfl
        refine kX6_wayToRing_77 ?_
        refine zb_go (zg_istore (by decide)) rfl ?_
        refine zb_go (zg_iconst 0 (by decide)) rfl ?_
        refine zb_go (zg_istore (by decide)) rfl ?_
        refine zb_out ?_
        refine il c 6 (by decide) 0 (c * 3 ^ (3 - m)) 0 (by decide) (z_27b m hn c (by omega) hc3) (by decide) (fun x hx => ?_) (fun hx => ?_)
        · rw [if_pos d1, hz, wF_spec hc3 hx (fun i hi => hno i hi d1)] at hQ
          rw [Nat.zero_add]
          exact hQ
        · refine kX6_wayToRing_211 ?_
          refine zb_go (zg_iinc 1 (by decide) rfl (by decide)) rfl ?_
          refine zb_end (zg_goto (tgt := 39) (by decide) ?_) rfl
          rw [nI_1]
          exact ih hc3 (fun i hi q => by
            by_cases w : i = c
            · rw [w]; exact hx
            · exact hno i (by omega) q)
  have fin := lp 0 (by omega) (fun i hi => by omega)
  refine kX6_wayToRing_0 ?_
  refine zb_go (zg_iload_n rfl) rfl ?_
  refine zb_calls (r_X6_bitsIn hs64) lX6_179 rfl (by first | decide | omega) rfl (Nat.le_of_ble_eq_true rfl) rfl ?_
  rw [em]
  rcases (show m = 0 ∨ m = 1 ∨ m = 2 ∨ m = 3 by omega) with rfl | rfl | rfl | rfl
  · refine zb_go (zg_istore_n (by decide)) rfl ?_
    refine zb_go (zg_iload_n rfl) rfl ?_
    refine zb_br (zg_if_ne (tgt := 13) (by decide)) rfl (fun d0 => ?_) (fun d0 => ?_)
    · exact absurd rfl d0
    · refine zb_go (zg_iconst 1 (by decide)) rfl ?_
      refine zb_end (zg_goto (tgt := 34) (by decide) ?_) rfl
      refine kX6_wayToRing_34 ?_
      refine zb_go (zg_istore (by decide)) rfl ?_
      refine zb_go (zg_iconst 0 (by decide)) rfl ?_
      refine zb_go (zg_istore (by decide)) rfl ?_
      refine zb_out ?_
      exact fin
  · refine zb_go (zg_istore_n (by decide)) rfl ?_
    refine zb_go (zg_iload_n rfl) rfl ?_
    refine zb_br (zg_if_ne (tgt := 13) (by decide)) rfl (fun d0 => ?_) (fun d0 => ?_)
    · refine kX6_wayToRing_13 ?_
      refine zb_go (zg_iload_n rfl) rfl ?_
      refine zb_go (zg_iconst 1 (by decide)) rfl ?_
      refine zb_br (zg_icmp_ne (tgt := 22) (by decide)) rfl (fun d1 => ?_) (fun d1 => ?_)
      · exact absurd rfl d1
      · refine zb_go (zg_iconst 3 (by decide)) rfl ?_
        refine zb_end (zg_goto (tgt := 34) (by decide) ?_) rfl
        refine kX6_wayToRing_34 ?_
        refine zb_go (zg_istore (by decide)) rfl ?_
        refine zb_go (zg_iconst 0 (by decide)) rfl ?_
        refine zb_go (zg_istore (by decide)) rfl ?_
        refine zb_out ?_
        exact fin
    · exact absurd d0 (by decide)
  · refine zb_go (zg_istore_n (by decide)) rfl ?_
    refine zb_go (zg_iload_n rfl) rfl ?_
    refine zb_br (zg_if_ne (tgt := 13) (by decide)) rfl (fun d0 => ?_) (fun d0 => ?_)
    · refine kX6_wayToRing_13 ?_
      refine zb_go (zg_iload_n rfl) rfl ?_
      refine zb_go (zg_iconst 1 (by decide)) rfl ?_
      refine zb_br (zg_icmp_ne (tgt := 22) (by decide)) rfl (fun d1 => ?_) (fun d1 => ?_)
      · refine kX6_wayToRing_22 ?_
        refine zb_go (zg_iload_n rfl) rfl ?_
        refine zb_go (zg_iconst 2 (by decide)) rfl ?_
        refine zb_br (zg_icmp_ne (tgt := 32) (by decide)) rfl (fun d2 => ?_) (fun d2 => ?_)
        · exact absurd rfl d2
        · refine zb_go (zg_bipush 9 (by decide)) rfl ?_
          refine zb_end (zg_goto (tgt := 34) (by decide) ?_) rfl
          refine kX6_wayToRing_34 ?_
          refine zb_go (zg_istore (by decide)) rfl ?_
          refine zb_go (zg_iconst 0 (by decide)) rfl ?_
          refine zb_go (zg_istore (by decide)) rfl ?_
          refine zb_out ?_
          exact fin
      · exact absurd d1 (by decide)
    · exact absurd d0 (by decide)
  · refine zb_go (zg_istore_n (by decide)) rfl ?_
    refine zb_go (zg_iload_n rfl) rfl ?_
    refine zb_br (zg_if_ne (tgt := 13) (by decide)) rfl (fun d0 => ?_) (fun d0 => ?_)
    · refine kX6_wayToRing_13 ?_
      refine zb_go (zg_iload_n rfl) rfl ?_
      refine zb_go (zg_iconst 1 (by decide)) rfl ?_
      refine zb_br (zg_icmp_ne (tgt := 22) (by decide)) rfl (fun d1 => ?_) (fun d1 => ?_)
      · refine kX6_wayToRing_22 ?_
        refine zb_go (zg_iload_n rfl) rfl ?_
        refine zb_go (zg_iconst 2 (by decide)) rfl ?_
        refine zb_br (zg_icmp_ne (tgt := 32) (by decide)) rfl (fun d2 => ?_) (fun d2 => ?_)
        · refine kX6_wayToRing_32 ?_
          refine zb_go (zg_bipush 27 (by decide)) rfl ?_
          refine zb_out ?_
          refine kX6_wayToRing_34 ?_
          refine zb_go (zg_istore (by decide)) rfl ?_
          refine zb_go (zg_iconst 0 (by decide)) rfl ?_
          refine zb_go (zg_istore (by decide)) rfl ?_
          refine zb_out ?_
          exact fin
        · exact absurd d2 (by decide)
      · exact absurd d1 (by decide)
    · exact absurd d0 (by decide)
end
