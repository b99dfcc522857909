/-! NIGHTS (8): what a night costs; the best -/
def wN (P : zP) (g : Nat) : Nat := if g < pH P then pW P g else 0
theorem pAll_eq {P : zP} (ok : okP P) : pAll P = zsum (wN P) 4 := by
  have key : ∀ n, pH P ≤ n → zsum (wN P) n = zsum (pW P) (pH P) := by
    intro n
    induction n with
    | zero => intro h; rw [show pH P = 0 by omega]; rfl
    | succ n ih =>
      intro h
      rcases Nat.lt_or_ge n (pH P) with q | q
      · have e : pH P = n + 1 := by omega
        rw [e]
        exact zsum_congr (fun i hi => by unfold wN; rw [if_pos (by omega)])
      · rw [zsum, ih q, wN, if_neg (by omega), Nat.add_zero]
  exact (key 4 ok.1).symm
theorem zrow_pop {P : zP} {g s : Nat} (h : (zrow P g s).isSome = true) : zpop s ≤ wN P g := by
  unfold zrow at h
  unfold wN
  by_cases q : g < pH P
  · rw [if_pos q] at h ⊢
    by_cases z : zpop s ≤ pW P g
    · exact z
    · rw [if_neg z] at h; cases h
  · rw [if_neg q] at h
    by_cases z : s = 0
    · rw [z, zpop_0]; exact Nat.zero_le _
    · rw [if_neg z] at h; cases h
theorem nPr_eq {P : zP} {tw g s : Nat} (h : (zrow P g s).isSome = true) : nPr P tw g s = (wN P g - zpop s) * 2 ^ 59 + pWalk P tw s * 2 ^ 48 + zspread g ((zrow P g s).getD 0) := by
  unfold nPr nPrice
  cases e : zrow P g s with
  | none => rw [e] at h; cases h
  | some x => rfl
theorem wN_le {P : zP} (ok : okP P) (g : Nat) : wN P g ≤ 3 := by
  unfold wN
  split
  · next q => exact (ok.2.2.2.2.2.1 g q).2
  · exact Nat.zero_le _
theorem nLaw_row {P : zP} {wo ti c : Nat} (h : nLaw P wo ti c = true) {g : Nat} (hg : g < 4) : (zrow P g (nS c g)).isSome = true := by
  unfold nLaw at h
  simp only [Bool.and_eq_true, zall_iff, decide_eq_true_eq] at h
  exact (h.1.1 g hg).1
theorem zspread_le (g x : Nat) (hg : g < 4) : zspread g x ≤ 3 * zsum (fun r => 4 ^ (23 - (4 * r + g))) 6 := by
  have h1 : ∀ r, r < 6 → x / 4 ^ r % 4 * 4 ^ (23 - (4 * r + g)) ≤ 3 * 4 ^ (23 - (4 * r + g)) := fun r _ => Nat.mul_le_mul_right _ (by have := Nat.mod_lt (x / 4 ^ r) (show 0 < 4 by decide); omega)
  have a0 := h1 0 (by decide)
  have a1 := h1 1 (by decide)
  have a2 := h1 2 (by decide)
  have a3 := h1 3 (by decide)
  have a4 := h1 4 (by decide)
  have a5 := h1 5 (by decide)
  simp only [zspread, zsum]
  omega
theorem nCode_lt (P : zP) (c : Nat) : nCode P c < 2 ^ 48 := by
  have a0 := zspread_le 0 ((zrow P 0 (nS c 0)).getD 0) (by decide)
  have a1 := zspread_le 1 ((zrow P 1 (nS c 1)).getD 0) (by decide)
  have a2 := zspread_le 2 ((zrow P 2 (nS c 2)).getD 0) (by decide)
  have a3 := zspread_le 3 ((zrow P 3 (nS c 3)).getD 0) (by decide)
  have e0 : 3 * zsum (fun r => 4 ^ (23 - (4 * r + 0))) 6 + 3 * zsum (fun r => 4 ^ (23 - (4 * r + 1))) 6 + 3 * zsum (fun r => 4 ^ (23 - (4 * r + 2))) 6 + 3 * zsum (fun r => 4 ^ (23 - (4 * r + 3))) 6 = 2 ^ 48 - 1 := by decide
  simp only [nCode]
  rw [show zsum (fun g => zspread g ((zrow P g (nS c g)).getD 0)) 4 = zspread 0 ((zrow P 0 (nS c 0)).getD 0) + zspread 1 ((zrow P 1 (nS c 1)).getD 0) + zspread 2 ((zrow P 2 (nS c 2)).getD 0) + zspread 3 ((zrow P 3 (nS c 3)).getD 0) by simp [zsum]]
  omega
theorem nWalk_le {P : zP} {wo ti tw c : Nat} (ok : okP P) (htw : tw ≤ 60) (h : nLaw P wo ti c = true) : nWalk P tw c ≤ 1440 := by
  have key : ∀ g, g < 4 → pWalk P tw (nS c g) ≤ 360 := fun g hg => by
    have h1 := pWalk_le (s := nS c g) ok htw
    have h2 := zrow_pop (nLaw_row h hg)
    have h3 := wN_le ok g
    omega
  exact zsum_le key
theorem nRung_le {P : zP} {wo ti c : Nat} (ok : okP P) (h : nLaw P wo ti c = true) : nRung c ≤ pAll P := by
  rw [pAll_eq ok]
  exact zsum_mono (fun g hg => zrow_pop (nLaw_row h hg))
theorem nKey_eq {P : zP} {wo ti tw c : Nat} (ok : okP P) (h : nLaw P wo ti c = true) : nCost (fun a => a) P tw (nS c) 0 = nKey P tw c := by
  have r0 := nLaw_row h (show 0 < 4 by decide)
  have r1 := nLaw_row h (show 1 < 4 by decide)
  have r2 := nLaw_row h (show 2 < 4 by decide)
  have r3 := nLaw_row h (show 3 < 4 by decide)
  have p0 := zrow_pop r0
  have p1 := zrow_pop r1
  have p2 := zrow_pop r2
  have p3 := zrow_pop r3
  have e0 := nPr_eq (tw := tw) r0
  have e1 := nPr_eq (tw := tw) r1
  have e2 := nPr_eq (tw := tw) r2
  have e3 := nPr_eq (tw := tw) r3
  unfold nCost nKey nRung nWalk nCode
  rw [pAll_eq ok]
  simp only [Nat.sub_zero, Nat.zero_add, zsum]
  rw [e0, e1, e2, e3]
  omega
theorem zSh_eq {a r : Nat} (h : r < 2 ^ 59) : zSh (a * 2 ^ 59 + r) = a * 2 ^ 59 := by
  unfold zSh
  rw [Nat.mul_comm a, Nat.mul_add_div (by decide), Nat.div_eq_of_lt h, Nat.add_zero, Nat.mul_comm]
theorem nShort_eq {P : zP} {wo ti tw c : Nat} (ok : okP P) (htw : tw ≤ 60) (h : nLaw P wo ti c = true) : nCost zSh P tw (nS c) 0 = (pAll P - nRung c) * 2 ^ 59 := by
  have key : ∀ g, g < 4 → zSh (nPr P tw g (nS c g)) = (wN P g - zpop (nS c g)) * 2 ^ 59 := fun g hg => by
    have r0 := nLaw_row h hg
    have h1 := pWalk_le (s := nS c g) ok htw
    have h2 := zrow_pop r0
    have h3 := wN_le ok g
    have h4 := zspread_lt g ((zrow P g (nS c g)).getD 0)
    rw [nPr_eq r0, Nat.add_assoc]
    exact zSh_eq (by omega)
  have p0 := zrow_pop (nLaw_row h (show 0 < 4 by decide))
  have p1 := zrow_pop (nLaw_row h (show 1 < 4 by decide))
  have p2 := zrow_pop (nLaw_row h (show 2 < 4 by decide))
  have p3 := zrow_pop (nLaw_row h (show 3 < 4 by decide))
  unfold nCost nRung
  rw [pAll_eq ok]
  simp only [Nat.sub_zero, Nat.zero_add, zsum]
  rw [key 0 (by decide), key 1 (by decide), key 2 (by decide), key 3 (by decide)]
  omega
theorem nLaw_0 (P : zP) (wo ti : Nat) : nLaw P wo ti 0 = true := by
  have e : ∀ g, nS 0 g = 0 := fun g => by unfold nS; rw [Nat.zero_shiftRight]
  have er : ∀ g, (zrow P g 0).isSome = true := fun g => by rw [← nPrice_isSome (tw := 0)]; exact nPrice_0 0 g
  unfold nLaw
  simp only [Bool.and_eq_true, zall_iff, decide_eq_true_eq, Bool.or_eq_true, e]
  refine ⟨⟨fun g _ => ⟨er g, Nat.zero_and _⟩, fun g _ k _ => Or.inr (Nat.zero_and _)⟩, fun r _ => ?_⟩
  have : zcnt (fun _ => (0 : Nat).testBit r) 4 = 0 := by simp [zcnt]
  rw [this]
  exact Nat.zero_le _
theorem nKey_lt {P : zP} {wo ti tw c : Nat} (ok : okP P) (htw : tw ≤ 60) (h : nLaw P wo ti c = true) : nWalk P tw c * 2 ^ 48 + nCode P c < 2 ^ 59 := by
  have h1 := nWalk_le ok htw h
  have h2 := nCode_lt P c
  omega
theorem nKey_top {P : zP} {wo ti tw c : Nat} (ok : okP P) (htw : tw ≤ 60) (h : nLaw P wo ti c = true) : nKey P tw c < 2 ^ 63 - 1 := by
  have k0 := nKey_lt (tw := tw) ok htw h
  have a1 : (pAll P - nRung c) * 2 ^ 59 ≤ 12 * 2 ^ 59 := Nat.mul_le_mul_right _ (Nat.le_trans (Nat.sub_le _ _) (pAll_le ok))
  rw [nKey, Nat.add_assoc]
  exact Nat.lt_of_lt_of_le (Nat.add_lt_add_of_le_of_lt a1 k0) (by decide)
theorem nKey_rung {P : zP} {tw c i : Nat} (ok : okP P) (htw : tw ≤ 60) (h2 : nLaw P 0 (pTi P) c = true) (q : nLaw P 0 (pTi P) i = true) (m : nKey P tw c ≤ nKey P tw i) : nRung i ≤ nRung c := by
  have k1 := nKey_lt (tw := tw) ok htw q
  have k2 := nKey_lt (tw := tw) ok htw h2
  have r1 := nRung_le ok q
  have r2 := nRung_le ok h2
  unfold nKey at m
  omega
/-- the best night -/
theorem nBest_at {P : zP} {tw : Nat} (ok : okP P) (htw : tw ≤ 60) : ∃ c, c < 2 ^ 24 ∧ nLaw P 0 (pTi P) c = true ∧ nKey P tw c = nBest P tw ∧ nRung c = nMost P 0 := by
  rcases zmn_at (p := nLaw P 0 (pTi P)) (f := nKey P tw) (2 ^ 24) with e | ⟨c, h1, h2, h3⟩
  · have h0 : zmn (nLaw P 0 (pTi P)) (nKey P tw) (2 ^ 24) ≤ nKey P tw 0 := zmn_le (by decide) (nLaw_0 P 0 (pTi P))
    rw [e] at h0
    exact absurd (Nat.lt_of_le_of_lt h0 (nKey_top ok htw (nLaw_0 P 0 (pTi P)))) (Nat.lt_irrefl _)
  · refine ⟨c, h1, h2, h3, Nat.le_antisymm ?_ ?_⟩
    · have := le_zmx (f := fun c => if nLaw P 0 (pTi P) c then nRung c else 0) h1
      simp only [h2, if_true] at this
      exact this
    · refine zmx_le (fun i hi => ?_)
      by_cases q : nLaw P 0 (pTi P) i = true
      · rw [if_pos q]
        have m := zmn_le (p := nLaw P 0 (pTi P)) (f := nKey P tw) hi q
        rw [← h3] at m
        exact nKey_rung ok htw h2 q m
      · rw [if_neg q]; exact Nat.zero_le _
theorem nBest_lt (P : zP) (tw : Nat) : nBest P tw < 2 ^ 63 :=
  Nat.lt_of_le_of_lt (zmn_top _) (by decide)
theorem nBest_short {P : zP} {tw : Nat} (ok : okP P) (htw : tw ≤ 60) : zSh (nBest P tw) = (pAll P - nMost P 0) * 2 ^ 59 := by
  obtain ⟨c, h1, h2, h3, h4⟩ := nBest_at ok htw
  rw [← h3, ← h4, nKey, Nat.add_assoc]
  exact zSh_eq (nKey_lt ok htw h2)
