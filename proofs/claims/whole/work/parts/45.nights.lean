/-! NIGHTS (16): the prices of an hour -/
theorem z_ins_lt {L : List Nat} {s k i : Nat} (hk : k ≤ L.length) (hi : i < k) : (L.take k ++ s :: L.drop k).getD i 0 = L.getD i 0 := by
  show ((L.take k ++ s :: L.drop k)[i]?).getD 0 = (L[i]?).getD 0
  rw [List.getElem?_append_left (by rw [List.length_take]; omega), List.getElem?_take_of_lt hi]
theorem z_ins_eq {L : List Nat} {s k : Nat} (hk : k ≤ L.length) : (L.take k ++ s :: L.drop k).getD k 0 = s := by
  show ((L.take k ++ s :: L.drop k)[k]?).getD 0 = s
  rw [List.getElem?_append_right (by rw [List.length_take]; omega), List.length_take, Nat.min_eq_left hk, Nat.sub_self]
  rfl
theorem z_ins_gt {L : List Nat} {s k i : Nat} (hk : k ≤ L.length) (hi : k < i) : (L.take k ++ s :: L.drop k).getD i 0 = L.getD (i - 1) 0 := by
  show ((L.take k ++ s :: L.drop k)[i]?).getD 0 = (L[i - 1]?).getD 0
  rw [List.getElem?_append_right (by rw [List.length_take]; omega), List.length_take, Nat.min_eq_left hk, show i - k = (i - k - 1) + 1 by omega, List.getElem?_cons_succ, List.getElem?_drop, show k + (i - k - 1) = i - 1 by omega]
theorem z_ins_mem {L : List Nat} {s k t : Nat} : t ∈ L.take k ++ s :: L.drop k ↔ t = s ∨ t ∈ L := by
  rw [List.mem_append, List.mem_cons]
  conv => rhs; rw [← List.take_append_drop k L, List.mem_append]
  constructor
  · rintro (h | h | h)
    · exact Or.inr (Or.inl h)
    · exact Or.inl h
    · exact Or.inr (Or.inr h)
  · rintro (h | h | h)
    · exact Or.inr (Or.inl h)
    · exact Or.inl h
    · exact Or.inr (Or.inr h)
theorem z_ins_len {L : List Nat} {s k : Nat} (hk : k ≤ L.length) : (L.take k ++ s :: L.drop k).length = L.length + 1 := by
  rw [List.length_append, List.length_take, List.length_cons, List.length_drop]
  omega
/-- a list in the order of f -/
def zAsc (f : Nat → Nat) (L : List Nat) : Prop := ∀ i j, i ≤ j → j < L.length → f (L.getD i 0) ≤ f (L.getD j 0)
theorem zAsc_ins {f : Nat → Nat} {L : List Nat} {s k : Nat} (h : zAsc f L) (hk : k ≤ L.length) (h1 : k = 0 ∨ f (L.getD (k - 1) 0) ≤ f s) (h2 : ∀ i, k ≤ i → i < L.length → f s < f (L.getD i 0)) : zAsc f (L.take k ++ s :: L.drop k) := by
  intro i j hij hj
  rw [z_ins_len hk] at hj
  have lo : ∀ i, i < k → f (L.getD i 0) ≤ f s := fun i hi => by
    rcases h1 with w | w
    · omega
    · exact Nat.le_trans (h i (k - 1) (by omega) (by omega)) w
  rcases Nat.lt_trichotomy i k with q | q | q
  · rw [z_ins_lt hk q]
    rcases Nat.lt_trichotomy j k with w | w | w
    · rw [z_ins_lt hk w]; exact h i j hij (by omega)
    · rw [w, z_ins_eq hk]; exact lo i q
    · rw [z_ins_gt hk w]; exact h i (j - 1) (by omega) (by omega)
  · rw [q, z_ins_eq hk]
    rcases Nat.lt_trichotomy j k with w | w | w
    · omega
    · rw [w, z_ins_eq hk]; exact Nat.le_refl _
    · rw [z_ins_gt hk w]; exact Nat.le_of_lt (h2 (j - 1) (by omega) (by omega))
  · rw [z_ins_gt hk q, z_ins_gt hk (by omega)]
    exact h (i - 1) (j - 1) (by omega) (by omega)
theorem zpop_zero : ∀ s, s < 64 → zpop s = 0 → s = 0 := by decide +kernel
theorem zrow_eq {P : zP} {g s : Nat} (hs : s < 64) : zrow P g s = if zpop s ≤ wN P g then zseat P g s 6 0 else none := by
  unfold zrow wN
  by_cases q : g < pH P
  · rw [if_pos q, if_pos q]
  · rw [if_neg q, if_neg q]
    by_cases z : s = 0
    · rw [if_pos z, z, zpop_0, if_pos (Nat.le_refl _), zseat_0 P g 0 6 0 (fun i _ => Nat.zero_testBit i)]
    · rw [if_neg z, if_neg (fun w => z (zpop_zero s hs (by omega)))]
/-- the sets of an hour from s on, in order -/
def tabI (P : zP) (tw g s : Nat) (sets sin : Nat → Int32) (pr : Nat → Int64) : Prop := ∃ L : List Nat, sin g = nI L.length ∧ L.length + s ≤ 64 ∧ (∀ i, i < L.length → sets (64 * g + i) = nI (L.getD i 0)) ∧ (∀ t, t ∈ L ↔ s ≤ t ∧ t < 64 ∧ (nPrice P tw g t).isSome = true) ∧ zAsc (nPr P tw g) L ∧ ∀ t, s ≤ t → t < 64 → pr (64 * g + t) = lN (nPr P tw g t)
def zOut {α : Type} (g : Nat) (f' f : Nat → α) : Prop := ∀ j, (j < 64 * g ∨ 64 * g + 64 ≤ j) → f' j = f j
section
variable {K : zK} {l : Launch} {n p q r g am0 tw s : Nat} {h : zH} {x y z : Int32} {P : zP} {se ri ti re fe ev mi am tn : Int32} {ch co fo : Int64} {sets sin pi : Nat → Int32} {pr lw : Nat → Int64} {f : Nat → Nat}
theorem r_X1_priceHour (hN : isNights h (se, ri, ti, re, ch, fe, ev, mi, sets, sin, pr, lw, am, tn, co, fo, pi)) (hP : isPar h p P) (hp : p + 5 < 22) (ok : okP P) (htw : tw ≤ 60) (hg : g < 4) :
    zRex K l 9 mX1_priceHour [.ref 22, .ref p, .int (nI tw), .int (nI g)] 59 h (fun v h' => v = none ∧ zSame 22 27 h h' ∧ ∃ sets' sin' pr', isNights h' (se, ri, ti, re, ch, fe, ev, mi, sets', sin', pr', lw, am, tn, co, fo, pi) ∧ tabI P tw g 0 sets' sin' pr' ∧ zOut g sets' sets ∧ zOut g pr' pr ∧ ∀ k, k ≠ g → sin' k = sin k) := by
  refine zRex.of (by decide) (Nat.le_of_ble_eq_true rfl) (fun Q hQ => ?_)
  have lp : ∀ s, s ≤ 64 → ∀ h0 sets' sin' pr' z, isNights h0 (se, ri, ti, re, ch, fe, ev, mi, sets', sin', pr', lw, am, tn, co, fo, pi) → zSame 22 27 h h0 → tabI P tw g s sets' sin' pr' → zOut g sets' sets → zOut g pr' pr → (∀ k, k ≠ g → sin' k = sin k) → (z = [] ∨ ∃ u v w, z = [(6, Value.int u), (7, Value.long v), (9, Value.long w)]) → zGo K l 9 mX1_priceHour 31 ([(0, .ref 22), (1, .ref p), (2, .int (nI tw)), (3, .int (nI g)), (4, .int (nI (wN P g))), (5, .int (nI s - 1))] ++ z) [] 59 h0 0 0 Q := by
    intro s
    induction s with
    | zero =>
      intro hs h0 sets' sin' pr' z hN0 hsm hT o1 o2 o3 hz
      refine zg_keep [0, 1, 2, 3, 4, 5] ?_
      have el : ((([(0, .ref 22), (1, .ref p), (2, .int (nI tw)), (3, .int (nI g)), (4, .int (nI (wN P g))), (5, .int (nI 0 - 1))] : List (Nat × Value)) ++ z).filter (fun q => [0, 1, 2, 3, 4, 5].contains q.1)) = [(0, .ref 22), (1, .ref p), (2, .int (nI tw)), (3, .int (nI g)), (4, .int (nI (wN P g))), (5, .int (nI 0 - 1))] := by
        rcases hz with rfl | ⟨u, v, w, rfl⟩ <;> rfl
      rw [el]
      refine kX1_priceHour_31 ?_
      refine zb_go (zg_iload rfl) rfl ?_
      refine zb_br (zg_if_lt (tgt := 139) (by decide)) rfl (fun c0 => ?_) (fun c0 => ?_)
      · refine kX1_priceHour_139 ?_
        refine zb_end (zg_return rfl ?_) rfl
        exact hQ _ _ ⟨rfl, hsm, sets', sin', pr', hN0, hT, o1, o2, o3⟩
      · exact absurd (by decide) c0
    | succ s ih =>
      intro hs h0 sets' sin' pr' z hN0 hsm hT o1 o2 o3 hz
      rw [nI_pred]
      refine zg_keep [0, 1, 2, 3, 4, 5] ?_
      have el : ((([(0, .ref 22), (1, .ref p), (2, .int (nI tw)), (3, .int (nI g)), (4, .int (nI (wN P g))), (5, .int (nI s))] : List (Nat × Value)) ++ z).filter (fun q => [0, 1, 2, 3, 4, 5].contains q.1)) = [(0, .ref 22), (1, .ref p), (2, .int (nI tw)), (3, .int (nI g)), (4, .int (nI (wN P g))), (5, .int (nI s))] := by
        rcases hz with rfl | ⟨u, v, w, rfl⟩ <;> rfl
      rw [el]
      have hP0 := hP.same hsm (by omega)
      have hs6 : s < 64 := by omega
      have hw3 := wN_le ok g
      have hpop := zpop_le s
      have rest : zGo K l 9 mX1_priceHour 65 [(0, .ref 22), (1, .ref p), (2, .int (nI tw)), (3, .int (nI g)), (4, .int (nI (wN P g))), (5, .int (nI s)), (6, .int (nI (zpop s)))] [.long (oL g (zrow P g s))] 59 h0 0 0 Q := by
        obtain ⟨L, hsin, hlen, hsets, hmem, hasc, hprs⟩ := hT
        obtain ⟨g1, g2, g3, g4, g5, g6⟩ := id hN0
        have e5 : nI s + -1 = nI s - 1 := by rw [Int32.sub_eq_add_neg]
        have hN1 : ∀ v, isNights (z_up h0 25 (.inl (2, 256, .inr (.inl (vp_updL pr' (64 * g + s) v))))) (se, ri, ti, re, ch, fe, ev, mi, sets', sin', vp_updL pr' (64 * g + s) v, lw, am, tn, co, fo, pi) := fun v => ⟨(z_up_ne (by decide)).trans g1, (z_up_ne (by decide)).trans g2, (z_up_ne (by decide)).trans g3, z_up_self _ _ _, (z_up_ne (by decide)).trans g5, (z_up_ne (by decide)).trans g6⟩
        have hpr1 : ∀ t, s ≤ t → t < 64 → vp_updL pr' (64 * g + s) (lN (nPr P tw g s)) (64 * g + t) = lN (nPr P tw g t) := fun t h1 h2 => by
          by_cases w : t = s
          · rw [w, pk_uLs]
          · rw [pk_uLn (by omega)]; exact hprs t (by omega) h2
        have o21 : ∀ v, zOut g (vp_updL pr' (64 * g + s) v) pr := fun v j hj => by rw [pk_uLn (by omega)]; exact o2 j hj
        cases er : zrow P g s with
        | none =>
          have en : (nPrice P tw g s).isSome = false := by rw [nPrice_isSome, er]; rfl
          have epr : nPr P tw g s = 2 ^ 63 - 1 := by unfold nPr nPrice; rw [er]; rfl
          refine kX1_priceHour_65 ?_
          refine zb_go (zg_lstore (by decide)) rfl ?_
          refine zb_go (zg_ldc2_w cX1_63) rfl ?_
          rw [lL_far, ← epr]
          refine zb_go (zg_lstore (by decide)) rfl ?_
          refine zb_go (zg_lload rfl) rfl ?_
          refine zb_go (zg_lconst 0 (by decide)) rfl ?_
          refine zb_go zg_lcmp rfl ?_
          refine zb_br (zg_if_lt (tgt := 105) (by decide)) rfl (fun c2 => ?_) (fun c2 => ?_)
          · refine kX1_priceHour_105 ?_
            refine zb_go (zg_aload_n rfl) rfl ?_
            refine zb_go (zg_getfield fX1_45 (by first | decide | assumption | omega) (by repeat (first | assumption | exact z_up_self _ _ _ | refine (z_up_ne (by first | decide | omega)).trans ?_)) (by rfl)) rfl ?_
            refine zb_go (zg_iload_n rfl) rfl ?_
            refine zb_go (zg_bipush 64 (by decide)) rfl ?_
            refine zb_go zg_imul rfl ?_
            refine zb_go (zg_iload rfl) rfl ?_
            refine zb_go zg_iadd rfl ?_
            rw [z_at64]
            refine zb_go (zg_lload rfl) rfl ?_
            refine zb_go (zi_lastore (by first | decide | assumption | omega) (by repeat (first | assumption | exact z_up_self _ _ _ | refine (z_up_ne (by first | decide | omega)).trans ?_)) (zIx.nI (show 64 * g + s < 256 by omega) (by decide))) rfl ?_
            refine zb_go (zg_lload rfl) rfl ?_
            refine zb_go (zg_lconst 0 (by decide)) rfl ?_
            refine zb_go zg_lcmp rfl ?_
            refine zb_br (zg_if_lt (tgt := 133) (by decide)) rfl (fun c3 => ?_) (fun c3 => ?_)
            · refine kX1_priceHour_133 ?_
              refine zb_go (zg_iinc (-1) (by decide) rfl (by decide)) rfl ?_
              refine zb_end (zg_goto (tgt := 31) (by decide) ?_) rfl
              rw [e5]
              refine ih (by omega) _ sets' sin' _ _ (hN1 _) (hsm.up (by omega) (by omega)) ⟨L, hsin, by omega, hsets, fun t => ?_, hasc, hpr1⟩ o1 (o21 _) o3 (Or.inr ⟨_, _, _, rfl⟩)
              rw [hmem t]
              constructor
              · rintro ⟨a1, a2, a3⟩; exact ⟨by omega, a2, a3⟩
              · rintro ⟨a1, a2, a3⟩
                refine ⟨?_, a2, a3⟩
                rcases Nat.eq_or_lt_of_le a1 with w | w
                · rw [← w, en] at a3; exact absurd a3 (by decide)
                · exact w
            · exact absurd (show lg_cmp (-9) 0 < 0 by decide) c3
          · exact absurd (show lg_cmp (-9) 0 < 0 by decide) c2
        | some x =>
          have hsome : (nPrice P tw g s).isSome = true := by rw [nPrice_isSome, er]; rfl
          have hx := zspread_lt g x
          have lx : oL g (some x) = lN (zspread g x) := rfl
          have neg : ¬ lg_cmp (oL g (some x)) 0 < 0 := fun w => by
            have w := (lg_cmp_lt _ _).mp w
            rw [lx, show (0 : Int64) = lN 0 from rfl, lL_lt (by omega) (by decide)] at w
            omega
          have hpw := zrow_pop (P := P) (g := g) (s := s) (by rw [er]; rfl)
          have e9 : nPr P tw g s = (wN P g - zpop s) * 2 ^ 59 + pWalk P tw s * 2 ^ 48 + zspread g x := by
            have := nPr_eq (P := P) (tw := tw) (g := g) (s := s) (by rw [er]; rfl)
            rw [er] at this
            exact this
          have hwk := pWalk_le (s := s) ok htw
          refine kX1_priceHour_65 ?_
          refine zb_go (zg_lstore (by decide)) rfl ?_
          refine zb_go (zg_ldc2_w cX1_63) rfl ?_
          rw [lL_far]
          refine zb_go (zg_lstore (by decide)) rfl ?_
          refine zb_go (zg_lload rfl) rfl ?_
          refine zb_go (zg_lconst 0 (by decide)) rfl ?_
          refine zb_go zg_lcmp rfl ?_
          refine zb_br (zg_if_lt (tgt := 105) (by decide)) rfl (fun c2 => ?_) (fun c2 => ?_)
          · exact absurd c2 neg
          · refine zb_go (zg_iload rfl) rfl ?_
            refine zb_go (zg_iload rfl) rfl ?_
            refine zb_go zg_isub rfl ?_
            rw [pk_sub hpw]
            refine zb_go zg_i2l rfl ?_
            rw [lL_i2l (by omega)]
            refine zb_go (zg_bipush 59 (by decide)) rfl ?_
            refine zb_go zg_lshl rfl ?_
            rw [show (59 : Int32) = nI 59 from rfl, lL_shl (by decide)]
            refine zb_go (zg_aload_n rfl) rfl ?_
            refine zb_go (zg_iload_n rfl) rfl ?_
            refine zb_go (zg_iload rfl) rfl ?_
            refine zb_calls (r_X1_walkOf hP0 (show p + 5 < 59 by omega) ok htw hs6) lX1_134 rfl (by first | decide | omega) rfl (Nat.le_of_ble_eq_true rfl) rfl ?_
            refine zb_go zg_i2l rfl ?_
            rw [lL_i2l (by omega)]
            refine zb_go (zg_bipush 48 (by decide)) rfl ?_
            refine zb_go zg_lshl rfl ?_
            rw [show (48 : Int32) = nI 48 from rfl, lL_shl (by decide)]
            refine zb_go zg_ladd rfl ?_
            rw [lN_add]
            refine zb_go (zg_lload rfl) rfl ?_
            refine zb_go zg_ladd rfl ?_
            rw [lx, lN_add, ← e9]
            refine zb_go (zg_lstore (by decide)) rfl ?_
            refine zb_out ?_
            refine kX1_priceHour_105 ?_
            refine zb_go (zg_aload_n rfl) rfl ?_
            refine zb_go (zg_getfield fX1_45 (by first | decide | assumption | omega) (by repeat (first | assumption | exact z_up_self _ _ _ | refine (z_up_ne (by first | decide | omega)).trans ?_)) (by rfl)) rfl ?_
            refine zb_go (zg_iload_n rfl) rfl ?_
            refine zb_go (zg_bipush 64 (by decide)) rfl ?_
            refine zb_go zg_imul rfl ?_
            refine zb_go (zg_iload rfl) rfl ?_
            refine zb_go zg_iadd rfl ?_
            rw [z_at64]
            refine zb_go (zg_lload rfl) rfl ?_
            refine zb_go (zi_lastore (by first | decide | assumption | omega) (by repeat (first | assumption | exact z_up_self _ _ _ | refine (z_up_ne (by first | decide | omega)).trans ?_)) (zIx.nI (show 64 * g + s < 256 by omega) (by decide))) rfl ?_
            refine zb_go (zg_lload rfl) rfl ?_
            refine zb_go (zg_lconst 0 (by decide)) rfl ?_
            refine zb_go zg_lcmp rfl ?_
            refine zb_br (zg_if_lt (tgt := 133) (by decide)) rfl (fun c3 => ?_) (fun c3 => ?_)
            · exact absurd c3 neg
            · have hin : ∀ i, i < L.length → s + 1 ≤ L.getD i 0 ∧ L.getD i 0 < 64 := fun i hi => by
                have := (hmem (L.getD i 0)).mp (by rw [z_getD hi]; exact List.getElem_mem hi)
                exact ⟨this.1, this.2.1⟩
              have hN1' := hN1 (lN (nPr P tw g s))
              have hpL1 : ∀ i, i < L.length → vp_updL pr' (64 * g + s) (lN (nPr P tw g s)) (64 * g + L.getD i 0) = lN (nPr P tw g (L.getD i 0)) := fun i hi => by
                have := hin i hi
                exact hpr1 _ (by omega) this.2
              refine zb_go (zg_aload_n rfl) rfl ?_
              refine zb_go (zg_iload_n rfl) rfl ?_
              refine zb_go (zg_iload rfl) rfl ?_
              refine zb_callvx (r_X1_addInOrder (f := nPr P tw g) hN1' hg hs6 (fun t => nPr_lt ok htw) (by omega) hsin hsets (fun i hi => (hin i hi).2) hpL1 (hpr1 s (Nat.le_refl _) hs6)) lX1_138 (by repeat (first | assumption | exact z_up_self _ _ _ | refine (z_up_ne (by first | decide | omega)).trans ?_)) rfl rfl (by first | decide | assumption | omega) (by first | decide | omega) rfl (Nat.le_of_ble_eq_true rfl) rfl ?_
              rintro v h6 ⟨rfl, sm6, sets2, k, hN2, hk, hle, hgt, q1, q2, q3, q4⟩
              refine zb_out ?_
              refine kX1_priceHour_133 ?_
              refine zb_go (zg_iinc (-1) (by decide) rfl (by decide)) rfl ?_
              refine zb_end (zg_goto (tgt := 31) (by decide) ?_) rfl
              rw [e5]
              refine ih (by omega) h6 sets2 _ _ _ hN2 ((hsm.up (by omega) (by omega)).trans sm6) ⟨L.take k ++ s :: L.drop k, ?_, by rw [z_ins_len hk]; omega, fun i hi => ?_, fun t => ?_, zAsc_ins hasc hk hle hgt, hpr1⟩ (fun j hj => (q4 j hj).trans (o1 j hj)) (o21 _) (fun k hk => (pk_un hk).trans (o3 k hk)) (Or.inr ⟨_, _, _, rfl⟩)
              · rw [z_ins_len hk, pk_us]
              · rw [z_ins_len hk] at hi
                rcases Nat.lt_trichotomy i k with w | w | w
                · rw [z_ins_lt hk w]; exact q1 i w
                · rw [w, z_ins_eq hk]; exact q2
                · rw [z_ins_gt hk w]; exact q3 i w (by omega)
              · rw [z_ins_mem, hmem t]
                constructor
                · rintro (w | ⟨a1, a2, a3⟩)
                  · rw [w]; exact ⟨Nat.le_refl _, hs6, hsome⟩
                  · exact ⟨by omega, a2, a3⟩
                · rintro ⟨a1, a2, a3⟩
                  rcases Nat.eq_or_lt_of_le a1 with w | w
                  · exact Or.inl w.symm
                  · exact Or.inr ⟨w, a2, a3⟩
      refine kX1_priceHour_31 ?_
      refine zb_go (zg_iload rfl) rfl ?_
      refine zb_br (zg_if_lt (tgt := 139) (by decide)) rfl (fun c0 => ?_) (fun c0 => ?_)
      · exact absurd c0 (nI_pos (by omega))
      · refine zb_go (zg_iload rfl) rfl ?_
        refine zb_calls (r_bitCount hs6) lX1_104 rfl (by first | decide | omega) rfl (Nat.le_of_ble_eq_true rfl) rfl ?_
        refine zb_go (zg_istore (by decide)) rfl ?_
        refine zb_go (zg_iload rfl) rfl ?_
        refine zb_go (zg_iload rfl) rfl ?_
        refine zb_br (zg_icmp_le (tgt := 56) (by decide)) rfl (fun c1 => ?_) (fun c1 => ?_)
        · have c1 := (nI_leI (by omega) (by omega)).mp c1
          refine kX1_priceHour_56 ?_
          refine zb_go (zg_aload_n rfl) rfl ?_
          refine zb_go (zg_iload_n rfl) rfl ?_
          refine zb_go (zg_iload rfl) rfl ?_
          refine zb_go (zg_iconst 0 (by decide)) rfl ?_
          refine zb_go (zg_iconst 0 (by decide)) rfl ?_
          refine zb_calls (r_X1_seatsOf hP0 (show p + 5 < 59 by omega) ok hg hs6 6 (Nat.le_refl _) 0 (by decide)) lX1_130 rfl (by first | decide | omega) rfl (Nat.le_of_ble_eq_true rfl) rfl ?_
          refine zb_out ?_
          rw [zrow_eq hs6, if_pos c1] at rest
          exact rest
        · have c1 : ¬ zpop s ≤ wN P g := fun w => c1 (nI_le w (by omega))
          refine zb_go (zg_ldc2_w cX1_128) rfl ?_
          refine zb_end (zg_goto (tgt := 65) (by decide) ?_) rfl
          rw [zrow_eq hs6, if_neg c1] at rest
          exact rest
  have hw3 := wN_le ok g
  obtain ⟨h1, h2, h3, h4, h5, h6⟩ := id hN
  have p1 := hP.1
  obtain ⟨fw, p2, p3⟩ := hP.2.1
  have st : zGo K l 9 mX1_priceHour 18 [(0, .ref 22), (1, .ref p), (2, .int (nI tw)), (3, .int (nI g))] [.int (nI (wN P g))] 59 h 0 0 Q := by
    refine kX1_priceHour_18 ?_
    refine zb_go (zg_istore (by decide)) rfl ?_
    refine zb_go (zg_aload_n rfl) rfl ?_
    refine zb_go (zg_getfield fX1_42 (by first | decide | assumption | omega) (by repeat (first | assumption | exact z_up_self _ _ _ | refine (z_up_ne (by first | decide | omega)).trans ?_)) (by rfl)) rfl ?_
    refine zb_go (zg_iload_n rfl) rfl ?_
    refine zb_go (zg_iconst 0 (by decide)) rfl ?_
    refine zb_go (zi_iastore (by first | decide | assumption | omega) (by repeat (first | assumption | exact z_up_self _ _ _ | refine (z_up_ne (by first | decide | omega)).trans ?_)) (zIx.nI hg (by decide))) rfl ?_
    refine zb_go (zg_bipush 63 (by decide)) rfl ?_
    refine zb_go (zg_istore (by decide)) rfl ?_
    refine zb_out ?_
    rw [show (63 : Int32) = nI 64 - 1 by decide]
    exact lp 64 (Nat.le_refl _) _ sets (upd sin g 0) pr [] ⟨(z_up_ne (by decide)).trans h1, (z_up_ne (by decide)).trans h2, z_up_self _ _ _, (z_up_ne (by decide)).trans h4, (z_up_ne (by decide)).trans h5, (z_up_ne (by decide)).trans h6⟩ (zSame.rf.up (by omega) (by omega)) ⟨[], pk_us, Nat.le_refl _, fun i hi => absurd hi (Nat.not_lt_zero _), fun t => ⟨fun w => absurd w (List.not_mem_nil), fun w => absurd (Nat.lt_of_le_of_lt w.1 w.2.1) (Nat.lt_irrefl _)⟩, fun i j _ hj => absurd hj (Nat.not_lt_zero _), fun t h1 h2 => by omega⟩ (fun _ _ => rfl) (fun _ _ => rfl) (fun k hk => pk_un hk) (Or.inl rfl)
  refine kX1_priceHour_0 ?_
  refine zb_go (zg_aload_n rfl) rfl ?_
  refine zb_go (zg_iload_n rfl) rfl ?_
  refine zb_callv (r_X2_hasHourN hP (show p + 5 < 59 by omega) ok (show g < 2 ^ 31 by omega)) lX1_122 (by repeat (first | assumption | exact z_up_self _ _ _ | refine (z_up_ne (by first | decide | omega)).trans ?_)) rfl rfl (by first | decide | assumption | omega) (by first | decide | omega) rfl (Nat.le_of_ble_eq_true rfl) rfl ?_
  refine zb_br (zg_if_eq (tgt := 17) (by decide)) rfl (fun c0 => ?_) (fun c0 => ?_)
  · have c0 : ¬ g < pH P := zb_0.mp c0
    refine kX1_priceHour_17 ?_
    refine zb_go (zg_iconst 0 (by decide)) rfl ?_
    refine zb_out ?_
    unfold wN at st
    rw [if_neg c0] at st
    exact st
  · have c0 : g < pH P := zb_n.mp c0
    refine zb_go (zg_aload_n rfl) rfl ?_
    refine zb_go (zg_getfield fX1_125 (by first | decide | assumption | omega) (by repeat (first | assumption | exact z_up_self _ _ _ | refine (z_up_ne (by first | decide | omega)).trans ?_)) (by rfl)) rfl ?_
    refine zb_go (zg_iload_n rfl) rfl ?_
    refine zb_go (zi_iaload (by first | decide | assumption | omega) (by repeat (first | assumption | exact z_up_self _ _ _ | refine (z_up_ne (by first | decide | omega)).trans ?_)) (zIx.nI hg (by decide))) rfl ?_
    rw [p3 g c0]
    refine zb_end (zg_goto (tgt := 18) (by decide) ?_) rfl
    unfold wN at st
    rw [if_pos c0] at st
    exact st
end
