/-! ROTA, what changes it -/
theorem zg_keep {K : zK} {l : Launch} {d : Nat} {M : zM} {pc : Nat} {ls : List (Nat × Value)} {st : List Value} {n : Nat} {h : zH} {mc ms : Nat} {Q : zQ} (ks : List Nat) (k : zGo K l d M pc (ls.filter (fun q => ks.contains q.1)) st n h mc ms Q) : zGo K l d M pc ls st n h mc ms Q := zg_sub _ (fun _ hq => (List.mem_filter.mp hq).1) k
section
variable {K : zK} {l : Launch} {n a a' r g q p : Nat} {h : zH} {tu tw tu' tw' x y : Int32} {S B S' B' : Nat → Int32} {P : zP}
theorem r_X3_give (hR : isRota h a tu tw S B) (ha : a + 2 < n) (hr : r < 6) (hg : g < 4) (hB : B (4 * r + g) = -9) : zRex K l 3 mX3_give [.ref a, .int (nI r), .int (nI g), .int y] n h (fun v h' => v = none ∧ isRota h' a (tu + 1) tw S (upd B (4 * r + g) y) ∧ zSame a (a + 2) h h') := by
  refine zRex.of (by decide) (Nat.le_of_ble_eq_true rfl) (fun Q hQ => ?_)
  obtain ⟨h1, h2, h3⟩ := id hR
  refine kX3_give_0 ?_
  refine zb_go (zg_iload_n rfl) rfl ?_
  refine zb_go (zg_iload_n rfl) rfl ?_
  refine zb_calls (r_X3_isTurn hr hg) lX3_34 rfl (by decide) rfl (Nat.le_of_ble_eq_true rfl) rfl ?_
  refine zb_br (zg_if_eq (tgt := 38) (by decide)) rfl (fun c0 => ?_) (fun c0 => ?_)
  · exact absurd c0 (by decide)
  · refine zb_go (zg_aload_n rfl) rfl ?_
    refine zb_go (zg_iload_n rfl) rfl ?_
    refine zb_go (zg_iload_n rfl) rfl ?_
    refine zb_callv (r_X3_hasTurn hR ha hr hg) lX3_42 (by repeat (first | assumption | exact z_up_self _ _ _ | refine (z_up_ne (by first | decide | omega)).trans ?_)) rfl rfl (by first | assumption | decide | omega) (by decide) rfl (Nat.le_of_ble_eq_true rfl) rfl ?_
    refine zb_br (zg_if_ne (tgt := 38) (by decide)) rfl (fun c1 => ?_) (fun c1 => ?_)
    · exact absurd hB (zb_n.mp c1)
    · refine zb_go (zg_aload_n rfl) rfl ?_
      refine zb_go (zg_getfield fX3_22 (by first | assumption | decide | omega) (by repeat (first | assumption | exact z_up_self _ _ _ | refine (z_up_ne (by first | decide | omega)).trans ?_)) (by rfl)) rfl ?_
      refine zb_go (zg_iload_n rfl) rfl ?_
      refine zb_go (zg_iconst 4 (by decide)) rfl ?_
      refine zb_go zg_imul rfl ?_
      refine zb_go (zg_iload_n rfl) rfl ?_
      refine zb_go zg_iadd rfl ?_
      refine zb_go (zg_iload_n rfl) rfl ?_
      refine zb_go (zi_iastore (by first | assumption | decide | omega) (by repeat (first | assumption | exact z_up_self _ _ _ | refine (z_up_ne (by first | decide | omega)).trans ?_)) (z_ix4 hr hg)) rfl ?_
      refine zb_go (zg_aload_n rfl) rfl ?_
      refine zb_go (zg_dup rfl) rfl ?_
      refine zb_go (zg_getfield fX3_9 (by first | assumption | decide | omega) (by repeat (first | assumption | exact z_up_self _ _ _ | refine (z_up_ne (by first | decide | omega)).trans ?_)) (by rfl)) rfl ?_
      refine zb_go (zg_iconst 1 (by decide)) rfl ?_
      refine zb_go zg_iadd rfl ?_
      refine zb_go (zg_putfield fX3_9 (by first | assumption | decide | omega) (by repeat (first | assumption | exact z_up_self _ _ _ | refine (z_up_ne (by first | decide | omega)).trans ?_)) (by exact Nat.le_of_ble_eq_true rfl) (by rfl) (by rfl) (by first | exact Or.inl rfl | exact Or.inr ⟨rfl, rfl⟩)) rfl ?_
      refine zb_out ?_
      refine kX3_give_38 ?_
      refine zb_end (zg_return rfl ?_) rfl
      exact hQ _ _ ⟨rfl, ⟨z_up_self _ _ _, (z_up_ne (by omega)).trans ((z_up_ne (by omega)).trans h2), (z_up_ne (by omega)).trans (z_up_self _ _ _)⟩, (zSame.rf.up (by omega) (by omega)).up (by omega) (by omega)⟩
theorem r_X3_free (hR : isRota h a tu tw S B) (ha : a + 2 < n) (hr : r < 6) (hg : g < 4) (hB : B (4 * r + g) ≠ -9) : zRex K l 3 mX3_free [.ref a, .int (nI r), .int (nI g)] n h (fun v h' => v = none ∧ isRota h' a (tu - 1) tw S (upd B (4 * r + g) (-9)) ∧ zSame a (a + 2) h h') := by
  refine zRex.of (by decide) (Nat.le_of_ble_eq_true rfl) (fun Q hQ => ?_)
  obtain ⟨h1, h2, h3⟩ := id hR
  refine kX3_free_0 ?_
  refine zb_go (zg_aload_n rfl) rfl ?_
  refine zb_go (zg_iload_n rfl) rfl ?_
  refine zb_go (zg_iload_n rfl) rfl ?_
  refine zb_callv (r_X3_hasTurn hR ha hr hg) lX3_42 (by repeat (first | assumption | exact z_up_self _ _ _ | refine (z_up_ne (by first | decide | omega)).trans ?_)) rfl rfl (by first | assumption | decide | omega) (by decide) rfl (Nat.le_of_ble_eq_true rfl) rfl ?_
  refine zb_br (zg_if_eq (tgt := 31) (by decide)) rfl (fun c1 => ?_) (fun c1 => ?_)
  · exact absurd hB (zb_0.mp c1)
  · refine zb_go (zg_aload_n rfl) rfl ?_
    refine zb_go (zg_getfield fX3_22 (by first | assumption | decide | omega) (by repeat (first | assumption | exact z_up_self _ _ _ | refine (z_up_ne (by first | decide | omega)).trans ?_)) (by rfl)) rfl ?_
    refine zb_go (zg_iload_n rfl) rfl ?_
    refine zb_go (zg_iconst 4 (by decide)) rfl ?_
    refine zb_go zg_imul rfl ?_
    refine zb_go (zg_iload_n rfl) rfl ?_
    refine zb_go zg_iadd rfl ?_
    refine zb_go (zg_bipush (-9) (by decide)) rfl ?_
    refine zb_go (zi_iastore (by first | assumption | decide | omega) (by repeat (first | assumption | exact z_up_self _ _ _ | refine (z_up_ne (by first | decide | omega)).trans ?_)) (z_ix4 hr hg)) rfl ?_
    refine zb_go (zg_aload_n rfl) rfl ?_
    refine zb_go (zg_dup rfl) rfl ?_
    refine zb_go (zg_getfield fX3_9 (by first | assumption | decide | omega) (by repeat (first | assumption | exact z_up_self _ _ _ | refine (z_up_ne (by first | decide | omega)).trans ?_)) (by rfl)) rfl ?_
    refine zb_go (zg_iconst 1 (by decide)) rfl ?_
    refine zb_go zg_isub rfl ?_
    refine zb_go (zg_putfield fX3_9 (by first | assumption | decide | omega) (by repeat (first | assumption | exact z_up_self _ _ _ | refine (z_up_ne (by first | decide | omega)).trans ?_)) (by exact Nat.le_of_ble_eq_true rfl) (by rfl) (by rfl) (by first | exact Or.inl rfl | exact Or.inr ⟨rfl, rfl⟩)) rfl ?_
    refine zb_out ?_
    refine kX3_free_31 ?_
    refine zb_end (zg_return rfl ?_) rfl
    exact hQ _ _ ⟨rfl, ⟨z_up_self _ _ _, (z_up_ne (by omega)).trans ((z_up_ne (by omega)).trans h2), (z_up_ne (by omega)).trans (z_up_self _ _ _)⟩, (zSame.rf.up (by omega) (by omega)).up (by omega) (by omega)⟩
/-- the first k hours of r and q exchanged -/
def swB (B : Nat → Int32) (r q k : Nat) : Nat → Int32 := fun j => if j / 4 = r ∧ j % 4 < k then B (4 * q + j % 4) else if j / 4 = q ∧ j % 4 < k then B (4 * r + j % 4) else B j
theorem swB_0 (B : Nat → Int32) (r q : Nat) : swB B r q 0 = B := by
  funext j
  simp [swB]
theorem swB_step (B : Nat → Int32) {r q k : Nat} (hk : k < 4) (hrq : r ≠ q) : upd (upd (swB B r q k) (4 * r + k) (swB B r q k (4 * q + k))) (4 * q + k) (swB B r q k (4 * r + k)) = swB B r q (k + 1) := by
  funext j
  have d1 : (4 * r + k) / 4 = r := by omega
  have d2 : (4 * r + k) % 4 = k := by omega
  have d3 : (4 * q + k) / 4 = q := by omega
  have d4 : (4 * q + k) % 4 = k := by omega
  by_cases e1 : j = 4 * q + k
  · subst e1
    rw [pk_us]
    simp [swB, d1, d2, d3, d4, Ne.symm hrq]
  · rw [pk_un e1]
    by_cases e2 : j = 4 * r + k
    · subst e2
      rw [pk_us]
      simp [swB, d1, d2, d3, d4]
    · rw [pk_un e2]
      have f1 : (j / 4 = r ∧ j % 4 < k + 1) ↔ (j / 4 = r ∧ j % 4 < k) := by omega
      have f2 : (j / 4 = q ∧ j % 4 < k + 1) ↔ (j / 4 = q ∧ j % 4 < k) := by omega
      simp only [swB, f1, f2]
theorem r_X3_swap (hR : isRota h a tu tw S B) (ha : a + 2 < n) (hr : r < 6) (hq : q < 6) (hrq : r ≠ q) : zRex K l 1 mX3_swap [.ref a, .int (nI r), .int (nI q)] n h (fun v h' => v = none ∧ isRota h' a tu tw S (swB B r q 4) ∧ zSame a (a + 2) h h') := by
  refine zRex.of (by decide) (Nat.le_of_ble_eq_true rfl) (fun Q hQ => ?_)
  have lp : ∀ k, k ≤ 4 → ∀ h0, isRota h0 a tu tw S (swB B r q k) → zSame a (a + 2) h h0 → zGo K l 1 mX3_swap 2 [(0, .ref a), (1, .int (nI r)), (2, .int (nI q)), (3, .int (nI k))] [] n h0 0 0 Q := by
    refine z_down 4 (fun k hk ih h0 hR0 hs => ?_)
    obtain ⟨h1, h2, h3⟩ := id hR0
    refine kX3_swap_2 ?_
    refine zb_go (zg_iload_n rfl) rfl ?_
    refine zb_go (zg_iconst 4 (by decide)) rfl ?_
    refine zb_br (zg_icmp_ge (tgt := 73) (by decide)) rfl (fun c => ?_) (fun c => ?_)
    · have e : k = 4 := by
        have := (nI_leI (a := 4) (b := k) (by decide) (by omega)).mp c
        omega
      subst e
      refine kX3_swap_73 ?_
      refine zb_end (zg_return rfl ?_) rfl
      exact hQ _ _ ⟨rfl, hR0, hs⟩
    · have hk4 : k < 4 := Nat.not_le.mp (fun q => c (nI_le q (by omega)))
      refine zb_go (zg_iload_n rfl) rfl ?_
      refine zb_go (zg_iload_n rfl) rfl ?_
      refine zb_calls (r_X3_isTurn hr hk4) lX3_34 rfl (by decide) rfl (Nat.le_of_ble_eq_true rfl) rfl ?_
      refine zb_br (zg_if_eq (tgt := 73) (by decide)) rfl (fun c0 => ?_) (fun c0 => ?_)
      · exact absurd c0 (by decide)
      · refine zb_go (zg_iload_n rfl) rfl ?_
        refine zb_go (zg_iload_n rfl) rfl ?_
        refine zb_calls (r_X3_isTurn hq hk4) lX3_34 rfl (by decide) rfl (Nat.le_of_ble_eq_true rfl) rfl ?_
        refine zb_br (zg_if_eq (tgt := 73) (by decide)) rfl (fun c1 => ?_) (fun c1 => ?_)
        · exact absurd c1 (by decide)
        · refine zb_go (zg_aload_n rfl) rfl ?_
          refine zb_go (zg_getfield fX3_22 (by first | assumption | decide | omega) (by repeat (first | assumption | exact z_up_self _ _ _ | refine (z_up_ne (by first | decide | omega)).trans ?_)) (by rfl)) rfl ?_
          refine zb_go (zg_iload_n rfl) rfl ?_
          refine zb_go (zg_iconst 4 (by decide)) rfl ?_
          refine zb_go zg_imul rfl ?_
          refine zb_go (zg_iload_n rfl) rfl ?_
          refine zb_go zg_iadd rfl ?_
          refine zb_go (zi_iaload (by first | assumption | decide | omega) (by repeat (first | assumption | exact z_up_self _ _ _ | refine (z_up_ne (by first | decide | omega)).trans ?_)) (z_ix4 hr hk4)) rfl ?_
          refine zb_go (zg_istore (by decide)) rfl ?_
          refine zb_go (zg_aload_n rfl) rfl ?_
          refine zb_go (zg_getfield fX3_22 (by first | assumption | decide | omega) (by repeat (first | assumption | exact z_up_self _ _ _ | refine (z_up_ne (by first | decide | omega)).trans ?_)) (by rfl)) rfl ?_
          refine zb_go (zg_iload_n rfl) rfl ?_
          refine zb_go (zg_iconst 4 (by decide)) rfl ?_
          refine zb_go zg_imul rfl ?_
          refine zb_go (zg_iload_n rfl) rfl ?_
          refine zb_go zg_iadd rfl ?_
          refine zb_go (zg_aload_n rfl) rfl ?_
          refine zb_go (zg_getfield fX3_22 (by first | assumption | decide | omega) (by repeat (first | assumption | exact z_up_self _ _ _ | refine (z_up_ne (by first | decide | omega)).trans ?_)) (by rfl)) rfl ?_
          refine zb_go (zg_iload_n rfl) rfl ?_
          refine zb_go (zg_iconst 4 (by decide)) rfl ?_
          refine zb_go zg_imul rfl ?_
          refine zb_go (zg_iload_n rfl) rfl ?_
          refine zb_go zg_iadd rfl ?_
          refine zb_go (zi_iaload (by first | assumption | decide | omega) (by repeat (first | assumption | exact z_up_self _ _ _ | refine (z_up_ne (by first | decide | omega)).trans ?_)) (z_ix4 hq hk4)) rfl ?_
          refine zb_go (zi_iastore (by first | assumption | decide | omega) (by repeat (first | assumption | exact z_up_self _ _ _ | refine (z_up_ne (by first | decide | omega)).trans ?_)) (z_ix4 hr hk4)) rfl ?_
          refine zb_go (zg_aload_n rfl) rfl ?_
          refine zb_go (zg_getfield fX3_22 (by first | assumption | decide | omega) (by repeat (first | assumption | exact z_up_self _ _ _ | refine (z_up_ne (by first | decide | omega)).trans ?_)) (by rfl)) rfl ?_
          refine zb_go (zg_iload_n rfl) rfl ?_
          refine zb_go (zg_iconst 4 (by decide)) rfl ?_
          refine zb_go zg_imul rfl ?_
          refine zb_go (zg_iload_n rfl) rfl ?_
          refine zb_go zg_iadd rfl ?_
          refine zb_go (zg_iload rfl) rfl ?_
          refine zb_go (zi_iastore (by first | assumption | decide | omega) (by repeat (first | assumption | exact z_up_self _ _ _ | refine (z_up_ne (by first | decide | omega)).trans ?_)) (z_ix4 hq hk4)) rfl ?_
          refine zb_go (zg_iinc 1 (by decide) rfl (by decide)) rfl ?_
          refine zb_end (zg_goto (tgt := 2) (by decide) ?_) rfl
          rw [nI_1, z_up_up, swB_step B hk4 hrq]
          refine zg_keep [0, 1, 2, 3] ?_
          exact ih hk4 _ ⟨(z_up_ne (by omega)).trans h1, (z_up_ne (by omega)).trans h2, z_up_self _ _ _⟩ (hs.up (by omega) (by omega))
  refine kX3_swap_0 ?_
  refine zb_go (zg_iconst 0 (by decide)) rfl ?_
  refine zb_go (zg_istore_n (by decide)) rfl ?_
  refine zb_out ?_
  exact lp 0 (by omega) h (by rw [swB_0]; exact hR) zSame.rf
/-- all turns and strokes taken away -/
def isNone (S : Nat → Int32) (N : Nat) : Prop := ∀ j, j < N → S j = -9
theorem r_X3_clean (hR : isRota h a tu tw S B) (ha : a + 2 < n) : zRex K l 0 mX3_clean [.ref a] n h (fun v h' => v = none ∧ (∃ S' B', isRota h' a 0 tw S' B' ∧ isNone S' 4 ∧ isNone B' 24) ∧ zSame a (a + 2) h h') := by
  refine zRex.of (by decide) (Nat.le_of_ble_eq_true rfl) (fun Q hQ => ?_)
  have nx : ∀ {f : Nat → Int32} {k : Nat}, isNone f k → isNone (upd f k (-9)) (k + 1) := by
    intro f k hf j hj
    by_cases e : j = k
    · rw [e, pk_us]
    · rw [pk_un e]; exact hf j (by omega)
  have lp2 : ∀ S', isNone S' 4 → ∀ k, k ≤ 24 → ∀ h0 B', isRota h0 a 0 tw S' B' → isNone B' k → zSame a (a + 2) h h0 → zGo K l 0 mX3_clean 28 [(0, .ref a), (1, .int (nI k))] [] n h0 0 0 Q := by
    intro S' hS'
    refine z_down 24 (fun k hk ih h0 B' hR0 hB0 hs => ?_)
    obtain ⟨h1, h2, h3⟩ := id hR0
    refine kX3_clean_28 ?_
    refine zb_go (zg_iload_n rfl) rfl ?_
    refine zb_go (zg_aload_n rfl) rfl ?_
    refine zb_go (zg_getfield fX3_22 (by first | assumption | decide | omega) (by repeat (first | assumption | exact z_up_self _ _ _ | refine (z_up_ne (by first | decide | omega)).trans ?_)) (by rfl)) rfl ?_
    refine zb_go (zg_arraylength (by first | assumption | decide | omega) (by repeat (first | assumption | exact z_up_self _ _ _ | refine (z_up_ne (by first | decide | omega)).trans ?_)) (by decide)) rfl ?_
    refine zb_br (zg_icmp_ge (tgt := 51) (by decide)) rfl (fun c => ?_) (fun c => ?_)
    · have e : k = 24 := by
        have := (nI_leI (a := 24) (b := k) (by decide) (by omega)).mp c
        omega
      subst e
      refine kX3_clean_51 ?_
      refine zb_end (zg_return rfl ?_) rfl
      exact hQ _ _ ⟨rfl, ⟨S', B', hR0, hS', hB0⟩, hs⟩
    · have hk4 : k < 24 := Nat.not_le.mp (fun q => c (nI_le q (by omega)))
      refine zb_go (zg_aload_n rfl) rfl ?_
      refine zb_go (zg_getfield fX3_22 (by first | assumption | decide | omega) (by repeat (first | assumption | exact z_up_self _ _ _ | refine (z_up_ne (by first | decide | omega)).trans ?_)) (by rfl)) rfl ?_
      refine zb_go (zg_iload_n rfl) rfl ?_
      refine zb_go (zg_bipush (-9) (by decide)) rfl ?_
      refine zb_go (zi_iastore (by first | assumption | decide | omega) (by repeat (first | assumption | exact z_up_self _ _ _ | refine (z_up_ne (by first | decide | omega)).trans ?_)) (by first | assumption | exact zIx.nI (by omega) (by decide) | exact ⟨by decide, by decide⟩)) rfl ?_
      refine zb_go (zg_iinc 1 (by decide) rfl (by decide)) rfl ?_
      refine zb_end (zg_goto (tgt := 28) (by decide) ?_) rfl
      rw [nI_1]
      exact ih hk4 _ _ ⟨(z_up_ne (by omega)).trans h1, (z_up_ne (by omega)).trans h2, z_up_self _ _ _⟩ (nx hB0) (hs.up (by omega) (by omega))
  have lp1 : ∀ k, k ≤ 4 → ∀ h0 S', isRota h0 a 0 tw S' B → isNone S' k → zSame a (a + 2) h h0 → zGo K l 0 mX3_clean 7 [(0, .ref a), (1, .int (nI k))] [] n h0 0 0 Q := by
    refine z_down 4 (fun k hk ih h0 S' hR0 hS0 hs => ?_)
    obtain ⟨h1, h2, h3⟩ := id hR0
    refine kX3_clean_7 ?_
    refine zb_go (zg_iload_n rfl) rfl ?_
    refine zb_go (zg_iconst 4 (by decide)) rfl ?_
    refine zb_br (zg_icmp_ge (tgt := 26) (by decide)) rfl (fun c => ?_) (fun c => ?_)
    · have e : k = 4 := by
        have := (nI_leI (a := 4) (b := k) (by decide) (by omega)).mp c
        omega
      subst e
      refine kX3_clean_26 ?_
      refine zb_go (zg_iconst 0 (by decide)) rfl ?_
      refine zb_go (zg_istore_n (by decide)) rfl ?_
      refine zb_out ?_
      exact lp2 S' hS0 0 (by omega) h0 B hR0 (fun j hj => absurd hj (Nat.not_lt_zero _)) hs
    · have hk4 : k < 4 := Nat.not_le.mp (fun q => c (nI_le q (by omega)))
      refine zb_go (zg_aload_n rfl) rfl ?_
      refine zb_go (zg_getfield fX3_18 (by first | assumption | decide | omega) (by repeat (first | assumption | exact z_up_self _ _ _ | refine (z_up_ne (by first | decide | omega)).trans ?_)) (by rfl)) rfl ?_
      refine zb_go (zg_iload_n rfl) rfl ?_
      refine zb_go (zg_bipush (-9) (by decide)) rfl ?_
      refine zb_go (zi_iastore (by first | assumption | decide | omega) (by repeat (first | assumption | exact z_up_self _ _ _ | refine (z_up_ne (by first | decide | omega)).trans ?_)) (by first | assumption | exact zIx.nI (by omega) (by decide) | exact ⟨by decide, by decide⟩)) rfl ?_
      refine zb_go (zg_iinc 1 (by decide) rfl (by decide)) rfl ?_
      refine zb_end (zg_goto (tgt := 7) (by decide) ?_) rfl
      rw [nI_1]
      exact ih hk4 _ _ ⟨(z_up_ne (by omega)).trans h1, z_up_self _ _ _, (z_up_ne (by omega)).trans h3⟩ (nx hS0) (hs.up (by omega) (by omega))
  obtain ⟨h1, h2, h3⟩ := id hR
  refine kX3_clean_0 ?_
  refine zb_go (zg_aload_n rfl) rfl ?_
  refine zb_go (zg_iconst 0 (by decide)) rfl ?_
  refine zb_go (zg_putfield fX3_9 (by first | assumption | decide | omega) (by repeat (first | assumption | exact z_up_self _ _ _ | refine (z_up_ne (by first | decide | omega)).trans ?_)) (by exact Nat.le_of_ble_eq_true rfl) (by rfl) (by rfl) (by first | exact Or.inl rfl | exact Or.inr ⟨rfl, rfl⟩)) rfl ?_
  refine zb_go (zg_iconst 0 (by decide)) rfl ?_
  refine zb_go (zg_istore_n (by decide)) rfl ?_
  refine zb_out ?_
  exact lp1 0 (by omega) _ S ⟨z_up_self _ _ _, (z_up_ne (by omega)).trans h2, (z_up_ne (by omega)).trans h3⟩ (fun j hj => absurd hj (Nat.not_lt_zero _)) (zSame.rf.up (by omega) (by omega))
theorem r_X3_empty (hR : isRota h a tu tw S B) (ha : a + 2 < n) : zRex K l 1 mX3_empty [.ref a, .int x] n h (fun v h' => v = none ∧ (∃ S' B', isRota h' a 0 x S' B' ∧ isNone S' 4 ∧ isNone B' 24) ∧ zSame a (a + 2) h h') := by
  refine zRex.of (by decide) (Nat.le_of_ble_eq_true rfl) (fun Q hQ => ?_)
  have h1 := hR.1
  refine kX3_empty_0 ?_
  refine zb_go (zg_aload_n rfl) rfl ?_
  refine zb_callvx (r_X3_clean hR ha) lX3_25 (by repeat (first | assumption | exact z_up_self _ _ _ | refine (z_up_ne (by first | decide | omega)).trans ?_)) rfl rfl (by first | assumption | decide | omega) (by decide) rfl (Nat.le_of_ble_eq_true rfl) rfl ?_
  rintro v h' ⟨rfl, ⟨S', B', hR', hS', hB'⟩, hs⟩
  obtain ⟨g1, g2, g3⟩ := id hR'
  refine zb_go (zg_aload_n rfl) rfl ?_
  refine zb_go (zg_iload_n rfl) rfl ?_
  refine zb_go (zg_putfield fX3_15 (by first | assumption | decide | omega) (by repeat (first | assumption | exact z_up_self _ _ _ | refine (z_up_ne (by first | decide | omega)).trans ?_)) (by exact Nat.le_of_ble_eq_true rfl) (by rfl) (by rfl) (by first | exact Or.inl rfl | exact Or.inr ⟨rfl, rfl⟩)) rfl ?_
  refine zb_end (zg_return rfl ?_) rfl
  exact hQ _ _ ⟨rfl, ⟨S', B', ⟨z_up_self _ _ _, (z_up_ne (by omega)).trans g2, (z_up_ne (by omega)).trans g3⟩, hS', hB'⟩, hs.up (by omega) (by omega)⟩
theorem z_cpy0 {f g : Nat → Int32} {N j : Nat} (hj : j < N) : va_cpy f g 0 0 N j = f j := by
  rw [pk_cpy_in (Nat.zero_le _) (by omega)]
  congr 1
  omega
theorem wcp1 : Cond.methodLink RX3 28 arraycopyName ∈ z_all := z_in (List.mem_of_getElem? (i := 777) (by decide +kernel)) (by decide +kernel)
theorem wcp2 : Cond.static arraycopyName ∈ z_all := z_in (List.mem_of_getElem? (i := 778) (by decide +kernel)) (by decide +kernel)
theorem wcp3 : Cond.native arraycopyName ∈ z_all := z_in (List.mem_of_getElem? (i := 779) (by decide +kernel)) (by decide +kernel)
theorem wcp4 : Cond.initialized "java/lang/System" ∈ z_all := z_in (List.mem_of_getElem? (i := 73) (by decide +kernel)) (by decide +kernel)
theorem r_X3_copy (hR : isRota h a tu tw S B) (ha : a + 2 < n) (hR' : isRota h a' tu' tw' S' B') (ha' : a' + 2 < n) (hap : a + 2 < a' ∨ a' + 2 < a) : zRex K l 1 mX3_copy [.ref a, .ref a'] n h (fun v h' => v = none ∧ (∃ S2 B2, isRota h' a tu' tw' S2 B2 ∧ (∀ j, j < 4 → S2 j = S' j) ∧ ∀ j, j < 24 → B2 j = B' j) ∧ zSame a (a + 2) h h') := by
  refine zRex.of (by decide) (Nat.le_of_ble_eq_true rfl) (fun Q hQ => ?_)
  obtain ⟨h1, h2, h3⟩ := id hR
  obtain ⟨g1, g2, g3⟩ := id hR'
  refine kX3_copy_0 ?_
  refine zb_go (zg_aload_n rfl) rfl ?_
  refine zb_go (zg_aload_n rfl) rfl ?_
  refine zb_go (zg_getfield fX3_9 (by first | assumption | decide | omega) (by repeat (first | assumption | exact z_up_self _ _ _ | refine (z_up_ne (by first | decide | omega)).trans ?_)) (by rfl)) rfl ?_
  refine zb_go (zg_putfield fX3_9 (by first | assumption | decide | omega) (by repeat (first | assumption | exact z_up_self _ _ _ | refine (z_up_ne (by first | decide | omega)).trans ?_)) (by exact Nat.le_of_ble_eq_true rfl) (by rfl) (by rfl) (by first | exact Or.inl rfl | exact Or.inr ⟨rfl, rfl⟩)) rfl ?_
  refine zb_go (zg_aload_n rfl) rfl ?_
  refine zb_go (zg_aload_n rfl) rfl ?_
  refine zb_go (zg_getfield fX3_15 (by first | assumption | decide | omega) (by repeat (first | assumption | exact z_up_self _ _ _ | refine (z_up_ne (by first | decide | omega)).trans ?_)) (by rfl)) rfl ?_
  refine zb_go (zg_putfield fX3_15 (by first | assumption | decide | omega) (by repeat (first | assumption | exact z_up_self _ _ _ | refine (z_up_ne (by first | decide | omega)).trans ?_)) (by exact Nat.le_of_ble_eq_true rfl) (by rfl) (by rfl) (by first | exact Or.inl rfl | exact Or.inr ⟨rfl, rfl⟩)) rfl ?_
  refine zb_go (zg_aload_n rfl) rfl ?_
  refine zb_go (zg_getfield fX3_18 (by first | assumption | decide | omega) (by repeat (first | assumption | exact z_up_self _ _ _ | refine (z_up_ne (by first | decide | omega)).trans ?_)) (by rfl)) rfl ?_
  refine zb_go (zg_iconst 0 (by decide)) rfl ?_
  refine zb_go (zg_aload_n rfl) rfl ?_
  refine zb_go (zg_getfield fX3_18 (by first | assumption | decide | omega) (by repeat (first | assumption | exact z_up_self _ _ _ | refine (z_up_ne (by first | decide | omega)).trans ?_)) (by rfl)) rfl ?_
  refine zb_go (zg_iconst 0 (by decide)) rfl ?_
  refine zb_go (zg_iconst 4 (by decide)) rfl ?_
  refine zb_go (zg_copyi wcp1 wcp3 wcp2 wcp4 (by omega) (by omega) (by repeat (first | assumption | exact z_up_self _ _ _ | refine (z_up_ne (by first | decide | omega)).trans ?_)) (by repeat (first | assumption | exact z_up_self _ _ _ | refine (z_up_ne (by first | decide | omega)).trans ?_)) (by decide) (by decide) (by decide) (by decide) (by decide) (by decide) (Nat.le_of_ble_eq_true rfl) z_natF) rfl ?_
  refine zb_go (zg_aload_n rfl) rfl ?_
  refine zb_go (zg_getfield fX3_22 (by first | assumption | decide | omega) (by repeat (first | assumption | exact z_up_self _ _ _ | refine (z_up_ne (by first | decide | omega)).trans ?_)) (by rfl)) rfl ?_
  refine zb_go (zg_iconst 0 (by decide)) rfl ?_
  refine zb_go (zg_aload_n rfl) rfl ?_
  refine zb_go (zg_getfield fX3_22 (by first | assumption | decide | omega) (by repeat (first | assumption | exact z_up_self _ _ _ | refine (z_up_ne (by first | decide | omega)).trans ?_)) (by rfl)) rfl ?_
  refine zb_go (zg_iconst 0 (by decide)) rfl ?_
  refine zb_go (zg_aload_n rfl) rfl ?_
  refine zb_go (zg_getfield fX3_22 (by first | assumption | decide | omega) (by repeat (first | assumption | exact z_up_self _ _ _ | refine (z_up_ne (by first | decide | omega)).trans ?_)) (by rfl)) rfl ?_
  refine zb_go (zg_arraylength (by first | assumption | decide | omega) (by repeat (first | assumption | exact z_up_self _ _ _ | refine (z_up_ne (by first | decide | omega)).trans ?_)) (by decide)) rfl ?_
  refine zb_go (zg_copyi wcp1 wcp3 wcp2 wcp4 (by omega) (by omega) (by repeat (first | assumption | exact z_up_self _ _ _ | refine (z_up_ne (by first | decide | omega)).trans ?_)) (by repeat (first | assumption | exact z_up_self _ _ _ | refine (z_up_ne (by first | decide | omega)).trans ?_)) (by decide) (by decide) (by decide) (by decide) (by decide) (by decide) (Nat.le_of_ble_eq_true rfl) z_natF) rfl ?_
  refine zb_end (zg_return rfl ?_) rfl
  rw [z_up_up]
  exact hQ _ _ ⟨rfl, ⟨_, _, ⟨(z_up_ne (by omega)).trans ((z_up_ne (by omega)).trans (z_up_self _ _ _)), (z_up_ne (by omega)).trans (z_up_self _ _ _), z_up_self _ _ _⟩, fun j hj => z_cpy0 hj, fun j hj => z_cpy0 hj⟩, ((zSame.rf.up (by omega) (by omega)).up (by omega) (by omega)).up (by omega) (by omega)⟩
end
