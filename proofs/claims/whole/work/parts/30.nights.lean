/-! NIGHTS (1): seats, walks -/
def oL (g : Nat) (o : Option Nat) : Int64 := o.elim (-9) (fun x => lN (zspread g x))
theorem zdig {r k b y : Nat} (hr : r < 6) (hk : k < 6) (hb : b < 4) : (4 ^ (r + 1) * y + b * 4 ^ r) / 4 ^ k % 4 = if k = r then b else (4 ^ (r + 1) * y) / 4 ^ k % 4 := by
  rcases (show r = 0 ∨ r = 1 ∨ r = 2 ∨ r = 3 ∨ r = 4 ∨ r = 5 by omega) with rfl | rfl | rfl | rfl | rfl | rfl <;>
  rcases (show k = 0 ∨ k = 1 ∨ k = 2 ∨ k = 3 ∨ k = 4 ∨ k = 5 by omega) with rfl | rfl | rfl | rfl | rfl | rfl <;> simp <;> omega
theorem zdig0 {r y : Nat} : (4 ^ (r + 1) * y) / 4 ^ r % 4 = 0 := by
  rw [Nat.pow_succ, Nat.mul_assoc, Nat.mul_div_cancel_left _ (Nat.pow_pos (by decide))]
  exact Nat.mul_mod_right _ _
theorem zspread_add {g r b y : Nat} (hr : r < 6) (hb : b < 4) : zspread g (4 ^ (r + 1) * y + b * 4 ^ r) = zspread g (4 ^ (r + 1) * y) + b * 4 ^ (23 - (4 * r + g)) := by
  unfold zspread
  have e := zsum_set (fun k => (4 ^ (r + 1) * y) / 4 ^ k % 4 * 4 ^ (23 - (4 * k + g))) (b * 4 ^ (23 - (4 * r + g))) hr
  have e0 : (4 ^ (r + 1) * y) / 4 ^ r % 4 * 4 ^ (23 - (4 * r + g)) = 0 := by rw [zdig0, Nat.zero_mul]
  simp only [e0, Nat.add_zero] at e
  rw [← e]
  refine zsum_congr (fun k hk => ?_)
  rw [zdig hr hk hb]
  by_cases q : k = r
  · rw [if_pos q, if_pos q, q]
  · rw [if_neg q, if_neg q]
/-- the bells of one ringer, from 3 - k on -/
def zsb (t : Nat → Option Nat) (c : Nat) : Nat → Option Nat
  | 0 => none
  | k + 1 => match t (2 - k) with
    | some x => some (x + (3 - k) * c)
    | none => zsb t c k
theorem zseat_sb (P : zP) (g s j tk : Nat) (hb : s.testBit (5 - j) = true) : zseat P g s (j + 1) tk = zsb (fun b => if (zdif (sBells P (5 - j) g) tk).testBit b then zseat P g s j (tk ||| 1 <<< b) else none) (4 ^ (5 - j)) 3 := by
  simp only [zseat, if_pos hb]
  rfl
theorem zseat_mul (P : zP) (g s : Nat) : ∀ j, j ≤ 6 → ∀ tk x, zseat P g s j tk = some x → ∃ y, x = 4 ^ (6 - j) * y
  | 0, _, tk, x, h => ⟨0, by simp only [zseat] at h; cases h; rfl⟩
  | j + 1, hj, tk, x, h => by
    have key : ∀ {tk x}, zseat P g s j tk = some x → ∃ y, x = 4 ^ (6 - (j + 1)) * y := by
      intro tk x h
      obtain ⟨y, rfl⟩ := zseat_mul P g s j (by omega) tk x h
      exact ⟨4 * y, by rw [show 6 - j = (6 - (j + 1)) + 1 by omega, Nat.pow_succ, Nat.mul_assoc]⟩
    have k2 : ∀ (o : Option Nat) (x b : Nat), (∀ z, o = some z → ∃ y, z = 4 ^ (6 - (j + 1)) * y) → o.map (fun z => z + b * 4 ^ (5 - j)) = some x → ∃ y, x = 4 ^ (6 - (j + 1)) * y := by
      intro o x b ho h
      cases o with
      | none => cases h
      | some z =>
        obtain ⟨y, rfl⟩ := ho z rfl
        simp only [Option.map_some, Option.some.injEq] at h
        exact ⟨y + b, by rw [← h, show 5 - j = 6 - (j + 1) by omega, Nat.mul_add, Nat.mul_comm b]⟩
    by_cases hb : s.testBit (5 - j) = true
    · rw [zseat_sb P g s j tk hb] at h
      have k3 : ∀ k, k ≤ 3 → ∀ x, zsb (fun b => if (zdif (sBells P (5 - j) g) tk).testBit b then zseat P g s j (tk ||| 1 <<< b) else none) (4 ^ (5 - j)) k = some x → ∃ y, x = 4 ^ (6 - (j + 1)) * y := by
        intro k
        induction k with
        | zero => intro _ x h; cases h
        | succ k ih =>
          intro hk x h
          simp only [zsb] at h
          split at h
          · next z hz =>
            refine k2 (some z) x (3 - k) (fun w hw => ?_) h
            cases hw
            split at hz
            · exact key hz
            · cases hz
          · exact ih (by omega) x h
      exact k3 3 (by decide) x h
    · simp only [zseat, if_neg hb] at h
      exact key h
theorem zseat_0 (P : zP) (g s : Nat) : ∀ j tk, (∀ i, 6 - j ≤ i → s.testBit i = false) → zseat P g s j tk = some 0
  | 0, _, _ => rfl
  | j + 1, tk, h => by
    have e := h (5 - j) (by omega)
    simp only [zseat, e]
    exact zseat_0 P g s j tk (fun i hi => h i (by omega))
section
variable {K : zK} {l : Launch} {n p q r g : Nat} {h : zH} {x y z : Int32} {P : zP}
theorem r_X1_shiftOf (hr : r < 6) (hg : g < 4) : zRet K l 0 mX1_shiftOf [.int (nI r), .int (nI g)] n h (some (.int (nI (46 - 2 * (4 * r + g))))) h := by
  refine zRet.of (by decide) (Nat.le_of_ble_eq_true rfl) (fun Q hQ => ?_)
  have key : ∀ r, r < 6 → ∀ g, g < 4 → (46 : Int32) - 2 * (nI r * 4 + nI g) = nI (46 - 2 * (4 * r + g)) := by decide
  refine kX1_shiftOf_0 ?_
  refine zb_go (zg_bipush 46 (by decide)) rfl ?_
  refine zb_go (zg_iconst 2 (by decide)) rfl ?_
  refine zb_go (zg_iload_n rfl) rfl ?_
  refine zb_go (zg_iconst 4 (by decide)) rfl ?_
  refine zb_go zg_imul rfl ?_
  refine zb_go (zg_iload_n rfl) rfl ?_
  refine zb_go zg_iadd rfl ?_
  refine zb_go zg_imul rfl ?_
  refine zb_go zg_isub rfl ?_
  rw [key r hr g hg]
  refine zb_end (zg_ireturn rfl (by rfl) ?_) rfl
  exact hQ
theorem z_shift {r g : Nat} (hr : r < 6) (hg : g < 4) : 2 ^ (46 - 2 * (4 * r + g)) = 4 ^ (23 - (4 * r + g)) := by
  rw [show (4 : Nat) = 2 ^ 2 from rfl, ← Nat.pow_mul, show 2 * (23 - (4 * r + g)) = 46 - 2 * (4 * r + g) by omega]
theorem zspread_lt (g x : Nat) : zspread g x < 2 ^ 48 := by
  have h1 : ∀ r, r < 6 → x / 4 ^ r % 4 * 4 ^ (23 - (4 * r + g)) ≤ 3 * 4 ^ (23 - 4 * r) := fun r _ => Nat.mul_le_mul (by have := Nat.mod_lt (x / 4 ^ r) (show 0 < 4 by decide); omega) (Nat.pow_le_pow_right (by decide) (by omega))
  have a0 := h1 0 (by decide)
  have a1 := h1 1 (by decide)
  have a2 := h1 2 (by decide)
  have a3 := h1 3 (by decide)
  have a4 := h1 4 (by decide)
  have a5 := h1 5 (by decide)
  simp only [zspread, zsum]
  simp only [Nat.reduceMul, Nat.reduceSub, Nat.reducePow] at a0 a1 a2 a3 a4 a5 ⊢
  omega
theorem r_X1_seatsOf {s : Nat} (hP : isPar h p P) (hp : p + 5 < n) (ok : okP P) (hg : g < 4) (hs : s < 64) : ∀ j, j ≤ 6 → ∀ tk, tk < 8 → zRet K l (j + 2) mX1_seatsOf [.ref p, .int (nI g), .int (nI s), .int (nI (6 - j)), .int (nI tk)] n h (some (.long (oL g (zseat P g s j tk)))) h := by
  intro j
  have h1 := hP.1
  induction j with
  | zero =>
    intro hj tk htk
    refine zRet.of (by decide) (Nat.le_of_ble_eq_true rfl) (fun Q hQ => ?_)
    refine kX1_seatsOf_0 ?_
    refine zb_go (zg_iload_n rfl) rfl ?_
    refine zb_go (zg_bipush 6 (by decide)) rfl ?_
    refine zb_br (zg_icmp_ge (tgt := 12) (by decide)) rfl (fun c0 => ?_) (fun c0 => ?_)
    · refine kX1_seatsOf_12 ?_
      refine zb_go (zg_lconst 0 (by decide)) rfl ?_
      refine zb_end (zg_lreturn rfl ?_) rfl
      have e0 : oL g (zseat P g s 0 tk) = 0 := by
        show lN (zspread g 0) = 0
        rw [show zspread g 0 = 0 by simp [zspread, zsum]]; rfl
      rw [e0] at hQ
      exact hQ
    · exact absurd (by decide) c0
  | succ j ih =>
    intro hj tk htk
    refine zRet.of (by decide) (Nat.le_of_ble_eq_true rfl) (fun Q hQ => ?_)
    have e5 : 6 - (j + 1) = 5 - j := by omega
    have e6 : nI (6 - (j + 1)) + 1 = nI (6 - j) := by rw [nI_1, show 6 - (j + 1) + 1 = 6 - j by omega]
    have esh : nI s >>> (nI (6 - (j + 1)) &&& 31) = nI (s >>> (5 - j)) := by rw [z_shr (by omega) (by omega), e5]
    have ebit := z_bit (a := s) (k := 5 - j) (by omega) (by omega)
    rw [show nI s >>> (nI (5 - j) &&& 31) = nI s >>> (nI (6 - (j + 1)) &&& 31) by rw [e5]] at ebit
    refine kX1_seatsOf_0 ?_
    refine zb_go (zg_iload_n rfl) rfl ?_
    refine zb_go (zg_bipush 6 (by decide)) rfl ?_
    refine zb_br (zg_icmp_ge (tgt := 12) (by decide)) rfl (fun c0 => ?_) (fun c0 => ?_)
    · exact absurd ((nI_leI (a := 6) (by decide) (by omega)).mp c0) (by omega)
    · refine zb_go (zg_iload_n rfl) rfl ?_
      refine zb_go (zg_iload_n rfl) rfl ?_
      refine zb_go zg_ishr rfl ?_
      refine zb_br (zg_if_ne (tgt := 14) (by decide)) rfl (fun c1 => ?_) (fun c1 => ?_)
      · have c1 : s >>> (5 - j) ≠ 0 := fun z => c1 (by rw [esh, z]; rfl)
        refine kX1_seatsOf_14 ?_
        refine zb_go (zg_iload_n rfl) rfl ?_
        refine zb_go (zg_iload_n rfl) rfl ?_
        refine zb_go zg_ishr rfl ?_
        refine zb_go (zg_iconst 1 (by decide)) rfl ?_
        refine zb_go zg_iand rfl ?_
        refine zb_br (zg_if_ne (tgt := 34) (by decide)) rfl (fun c2 => ?_) (fun c2 => ?_)
        · have hb : s.testBit (5 - j) = true := by
            cases e : s.testBit (5 - j) with
            | true => rfl
            | false => rw [e] at ebit; exact absurd ebit c2
          rw [zseat_sb P g s j tk hb] at hQ
          have ho := sBells_lt (r := 5 - j) (g := g) ok
          have hzo : zdif (sBells P (5 - j) g) tk < 2 ^ 3 := Nat.lt_pow_two_of_testBit _ (fun i hi => by
            rw [zdif_bit, Nat.testBit_lt_two_pow (Nat.lt_of_le_of_lt ho (Nat.lt_of_lt_of_le (by decide : 7 < 2 ^ 3) (Nat.pow_le_pow_right (by decide) hi))), Bool.false_and])
          have lp : ∀ k b, b + k = 3 → zsb (fun b => if (zdif (sBells P (5 - j) g) tk).testBit b then zseat P g s j (tk ||| 1 <<< b) else none) (4 ^ (5 - j)) k = zsb (fun b => if (zdif (sBells P (5 - j) g) tk).testBit b then zseat P g s j (tk ||| 1 <<< b) else none) (4 ^ (5 - j)) 3 → ∀ ls, ls = [] ∨ (∃ v, ls = [(7, .long v)]) → zGo K l (j + 1 + 2) mX1_seatsOf 50 ([(0, .ref p), (1, .int (nI g)), (2, .int (nI s)), (3, .int (nI (6 - (j + 1)))), (4, .int (nI tk)), (5, .int (nI (zdif (sBells P (5 - j) g) tk))), (6, .int (nI b))] ++ ls) [] n h 0 0 Q := by
            intro k
            induction k with
            | zero =>
              intro b hbk he ls hls
              rw [show b = 3 by omega]
              have he : none = zsb (fun b => if (zdif (sBells P (5 - j) g) tk).testBit b then zseat P g s j (tk ||| 1 <<< b) else none) (4 ^ (5 - j)) 3 := he
              rw [← he] at hQ
              refine zg_keep [0, 1, 2, 3, 4, 5, 6] ?_
              rcases hls with rfl | ⟨v, rfl⟩
              all_goals
                refine kX1_seatsOf_50 ?_
                refine zb_go (zg_iload rfl) rfl ?_
                refine zb_go (zg_iconst 3 (by decide)) rfl ?_
                refine zb_br (zg_icmp_ge (tgt := 112) (by decide)) rfl (fun c3 => ?_) (fun c3 => ?_)
                · refine kX1_seatsOf_112 ?_
                  refine zb_go (zg_ldc2_w cX1_128) rfl ?_
                  refine zb_end (zg_lreturn rfl ?_) rfl
                  exact hQ
                · exact absurd (by decide) c3
            | succ k ihk =>
              intro b hbk he ls hls
              have hb3 : b < 3 := by omega
              have ebo := z_bit (a := zdif (sBells P (5 - j) g) tk) (k := b) (Nat.lt_trans hzo (by decide)) (by omega)
              simp only [zsb] at he
              rw [show 2 - k = b by omega] at he
              refine zg_keep [0, 1, 2, 3, 4, 5, 6] ?_
              have el : ((([(0, .ref p), (1, .int (nI g)), (2, .int (nI s)), (3, .int (nI (6 - (j + 1)))), (4, .int (nI tk)), (5, .int (nI (zdif (sBells P (5 - j) g) tk))), (6, .int (nI b))] : List (Nat × Value)) ++ ls).filter (fun q => [0, 1, 2, 3, 4, 5, 6].contains q.1)) = [(0, .ref p), (1, .int (nI g)), (2, .int (nI s)), (3, .int (nI (6 - (j + 1)))), (4, .int (nI tk)), (5, .int (nI (zdif (sBells P (5 - j) g) tk))), (6, .int (nI b))] := by
                rcases hls with rfl | ⟨v, rfl⟩ <;> rfl
              rw [el]
              refine kX1_seatsOf_50 ?_
              refine zb_go (zg_iload rfl) rfl ?_
              refine zb_go (zg_iconst 3 (by decide)) rfl ?_
              refine zb_br (zg_icmp_ge (tgt := 112) (by decide)) rfl (fun c3 => ?_) (fun c3 => ?_)
              · exact absurd ((nI_leI (a := 3) (by decide) (by omega)).mp c3) (by omega)
              · refine zb_go (zg_iload rfl) rfl ?_
                refine zb_go (zg_iload rfl) rfl ?_
                refine zb_go zg_ishr rfl ?_
                refine zb_go (zg_iconst 1 (by decide)) rfl ?_
                refine zb_go zg_iand rfl ?_
                refine zb_br (zg_if_eq (tgt := 106) (by decide)) rfl (fun c4 => ?_) (fun c4 => ?_)
                · have hbit : (zdif (sBells P (5 - j) g) tk).testBit b = false := by
                    cases e : (zdif (sBells P (5 - j) g) tk).testBit b with
                    | false => rfl
                    | true => rw [e] at ebo; exact absurd (ebo.symm.trans c4) (by decide)
                  rw [hbit] at he
                  refine kX1_seatsOf_106 ?_
                  refine zb_go (zg_iinc 1 (by decide) rfl (by decide)) rfl ?_
                  refine zb_end (zg_goto (tgt := 50) (by decide) ?_) rfl
                  rw [nI_1]
                  exact ihk (b + 1) (by omega) he [] (Or.inl rfl)
                · have hbit : (zdif (sBells P (5 - j) g) tk).testBit b = true := by
                    cases e : (zdif (sBells P (5 - j) g) tk).testBit b with
                    | true => rfl
                    | false => rw [e] at ebo; exact absurd ebo c4
                  rw [hbit, if_pos rfl] at he
                  have htk : tk ||| 1 <<< b < 8 := Nat.or_lt_two_pow (n := 3) htk (by
                    rw [Nat.one_shiftLeft]; exact Nat.pow_lt_pow_right (by decide) hb3)
                  refine zb_go (zg_aload_n rfl) rfl ?_
                  refine zb_go (zg_iload_n rfl) rfl ?_
                  refine zb_go (zg_iload_n rfl) rfl ?_
                  refine zb_go (zg_iload_n rfl) rfl ?_
                  refine zb_go (zg_iconst 1 (by decide)) rfl ?_
                  refine zb_go zg_iadd rfl ?_
                  rw [e6]
                  refine zb_go (zg_iload rfl) rfl ?_
                  refine zb_go (zg_iconst 1 (by decide)) rfl ?_
                  refine zb_go (zg_iload rfl) rfl ?_
                  refine zb_go zg_ishl rfl ?_
                  refine zb_go zg_ior rfl ?_
                  rw [show (1 : Int32) = nI 1 from rfl, z_shl (by omega), z_or]
                  refine zb_calls (ih (by omega) _ htk) lX1_130 rfl (by first | decide | omega) rfl (Nat.le_of_ble_eq_true rfl) rfl ?_
                  refine zb_go (zg_lstore (by decide)) rfl ?_
                  refine zb_go (zg_lload rfl) rfl ?_
                  cases ez : zseat P g s j (tk ||| 1 <<< b) with
                  | none =>
                    rw [ez] at he
                    refine zb_go (zg_lconst 0 (by decide)) rfl ?_
                    refine zb_go zg_lcmp rfl ?_
                    refine zb_br (zg_if_lt (tgt := 106) (by decide)) rfl (fun c5 => ?_) (fun c5 => ?_)
                    · refine kX1_seatsOf_106 ?_
                      refine zb_go (zg_iinc 1 (by decide) rfl (by decide)) rfl ?_
                      refine zb_end (zg_goto (tgt := 50) (by decide) ?_) rfl
                      rw [nI_1]
                      exact ihk (b + 1) (by omega) he [(7, .long (oL g none))] (Or.inr ⟨_, rfl⟩)
                    · exact absurd (show lg_cmp (-9) 0 < 0 by decide) c5
                  | some x =>
                    rw [ez] at he
                    have hx := zspread_lt g x
                    have lx : oL g (some x) = lN (zspread g x) := rfl
                    refine zb_go (zg_lconst 0 (by decide)) rfl ?_
                    refine zb_go zg_lcmp rfl ?_
                    refine zb_br (zg_if_lt (tgt := 106) (by decide)) rfl (fun c5 => ?_) (fun c5 => ?_)
                    · exact absurd ((lg_cmp_lt _ _).mp c5) (by
                        rw [lx, show (0 : Int64) = lN 0 from rfl, lL_lt (by omega) (by decide)]; omega)
                    · refine zb_go (zg_lload rfl) rfl ?_
                      refine zb_go (zg_iload rfl) rfl ?_
                      refine zb_go (zg_iconst 1 (by decide)) rfl ?_
                      refine zb_go zg_iadd rfl ?_
                      refine zb_go zg_i2l rfl ?_
                      refine zb_go (zg_iload_n rfl) rfl ?_
                      refine zb_go (zg_iload_n rfl) rfl ?_
                      rw [e5]
                      refine zb_calls (r_X1_shiftOf (show 5 - j < 6 by omega) hg) lX1_94 rfl (by first | decide | omega) rfl (Nat.le_of_ble_eq_true rfl) rfl ?_
                      rw [lx, nI_1, lL_i2l (by omega)]
                      refine zb_go zg_lshl rfl ?_
                      refine zb_go zg_ladd rfl ?_
                      rw [lL_shl (by omega), lN_add, z_shift (by omega) hg]
                      obtain ⟨y, rfl⟩ := zseat_mul P g s j (by omega) _ _ ez
                      have e9 : 4 ^ (6 - j) * y = 4 ^ ((5 - j) + 1) * y := by rw [show 6 - j = (5 - j) + 1 by omega]
                      rw [e9, ← zspread_add (by omega) (by omega)]
                      have he : some (4 ^ (6 - j) * y + (3 - k) * 4 ^ (5 - j)) = zsb (fun b => if (zdif (sBells P (5 - j) g) tk).testBit b then zseat P g s j (tk ||| 1 <<< b) else none) (4 ^ (5 - j)) 3 := he
                      rw [e9, show 3 - k = b + 1 by omega] at he
                      rw [← he] at hQ
                      refine zb_end (zg_lreturn rfl ?_) rfl
                      exact hQ
          refine kX1_seatsOf_34 ?_
          refine zb_go (zg_aload_n rfl) rfl ?_
          refine zb_go (zg_iload_n rfl) rfl ?_
          refine zb_go (zg_iload_n rfl) rfl ?_
          rw [e5]
          refine zb_callv (r_X2_bellsFor hP hp ok (show 5 - j < 2 ^ 31 by omega) (by omega)) lX1_145 (by repeat (first | assumption | exact z_up_self _ _ _ | refine (z_up_ne (by first | decide | omega)).trans ?_)) rfl rfl (by first | assumption | decide | omega) (by first | decide | omega) rfl (Nat.le_of_ble_eq_true rfl) rfl ?_
          refine zb_go (zg_iload rfl) rfl ?_
          refine zb_go (zg_iconst (-1) (by decide)) rfl ?_
          refine zb_go zg_ixor rfl ?_
          refine zb_go zg_iand rfl ?_
          rw [z_andn, ← e5]
          refine zb_go (zg_istore (by decide)) rfl ?_
          refine zb_go (zg_iconst 0 (by decide)) rfl ?_
          refine zb_go (zg_istore (by decide)) rfl ?_
          refine zb_out ?_
          have lq := lp 3 0 rfl rfl [] (Or.inl rfl)
          rw [e5] at lq
          rw [e5]
          exact lq
        · have hb : s.testBit (5 - j) = false := by
            cases e : s.testBit (5 - j) with
            | false => rfl
            | true => rw [e] at ebit; exact absurd (ebit.symm.trans c2) (by decide)
          refine zb_go (zg_aload_n rfl) rfl ?_
          refine zb_go (zg_iload_n rfl) rfl ?_
          refine zb_go (zg_iload_n rfl) rfl ?_
          refine zb_go (zg_iload_n rfl) rfl ?_
          refine zb_go (zg_iconst 1 (by decide)) rfl ?_
          refine zb_go zg_iadd rfl ?_
          rw [e6]
          refine zb_go (zg_iload rfl) rfl ?_
          refine zb_calls (ih (by omega) tk htk) lX1_130 rfl (by first | decide | omega) rfl (Nat.le_of_ble_eq_true rfl) rfl ?_
          refine zb_end (zg_lreturn rfl ?_) rfl
          have e0 : zseat P g s (j + 1) tk = zseat P g s j tk := by simp [zseat, hb]
          rw [e0] at hQ
          exact hQ
      · have c1 : s >>> (5 - j) = 0 := by
          rw [esh] at c1
          exact (nI_eq (by rw [Nat.shiftRight_eq_div_pow]; exact Nat.lt_of_le_of_lt (Nat.div_le_self _ _) (by omega)) (by decide)).mp c1
        have e0 : zseat P g s (j + 1) tk = some 0 := zseat_0 P g s _ _ (fun i hi => by
          have := congrArg (fun z => z.testBit (i - (5 - j))) c1
          simp only [Nat.testBit_shiftRight, Nat.zero_testBit] at this
          rw [show 5 - j + (i - (5 - j)) = i by omega] at this
          exact this)
        refine zb_out ?_
        refine kX1_seatsOf_12 ?_
        refine zb_go (zg_lconst 0 (by decide)) rfl ?_
        refine zb_end (zg_lreturn rfl ?_) rfl
        have e1 : oL g (some 0) = 0 := by
          show lN (zspread g 0) = 0
          rw [show zspread g 0 = 0 by simp [zspread, zsum]]; rfl
        rw [e0, e1] at hQ
        exact hQ
end
