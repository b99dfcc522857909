/-! NIGHTS (11): the few, the even, the needed -/
theorem nLaw_mono {P : zP} {wo wo' ti ti' c : Nat} (hw : ∀ g, g < 4 → nS c g &&& wo' = 0) (ht : ∀ r, r < 6 → zcnt (fun g => (nS c g).testBit r) 4 ≤ ti') (h : nLaw P wo ti c = true) : nLaw P wo' ti' c = true := by
  unfold nLaw at h ⊢
  simp only [Bool.and_eq_true, zall_iff, decide_eq_true_eq] at h ⊢
  exact ⟨⟨fun g hg => ⟨(h.1.1 g hg).1, hw g hg⟩, h.1.2⟩, fun r hr => ht r hr⟩
theorem nLaw_ti {P : zP} {wo ti c : Nat} (h : nLaw P wo ti c = true) : ∀ r, r < 6 → zcnt (fun g => (nS c g).testBit r) 4 ≤ ti := by
  unfold nLaw at h
  simp only [Bool.and_eq_true, zall_iff, decide_eq_true_eq] at h
  exact h.2
theorem nLaw_wo {P : zP} {wo ti c : Nat} (h : nLaw P wo ti c = true) : ∀ g, g < 4 → nS c g &&& wo = 0 := by
  unfold nLaw at h
  simp only [Bool.and_eq_true, zall_iff, decide_eq_true_eq] at h
  exact fun g hg => (h.1.1 g hg).2
theorem nRung_most {P : zP} {wo c : Nat} (hc : c < 2 ^ 24) (h : nLaw P wo (pTi P) c = true) : nRung c ≤ nMost P wo := by
  have := le_zmx (f := fun c => if nLaw P wo (pTi P) c then nRung c else 0) hc
  simp only [h, if_true] at this
  exact this
theorem zmx_at {f : Nat → Nat} : ∀ n, zmx f n = 0 ∨ ∃ i, i < n ∧ f i = zmx f n
  | 0 => Or.inl rfl
  | n + 1 => by
    simp only [zmx]
    rcases Nat.le_total (zmx f n) (f n) with q | q
    · rw [Nat.max_eq_right q]; exact Or.inr ⟨n, by omega, rfl⟩
    · rw [Nat.max_eq_left q]
      rcases zmx_at (f := f) n with e | ⟨i, hi, e⟩
      · exact Or.inl e
      · exact Or.inr ⟨i, by omega, e⟩
theorem nMost_at (P : zP) (wo : Nat) : ∃ c, c < 2 ^ 24 ∧ nLaw P wo (pTi P) c = true ∧ nRung c = nMost P wo := by
  have zero : nMost P wo = 0 → ∃ c, c < 2 ^ 24 ∧ nLaw P wo (pTi P) c = true ∧ nRung c = nMost P wo := fun e =>
    ⟨0, by decide, nLaw_0 P wo _, by rw [e]; decide⟩
  rcases zmx_at (f := fun c => if nLaw P wo (pTi P) c then nRung c else 0) (2 ^ 24) with e | ⟨i, hi, e⟩
  · exact zero e
  · by_cases q : nLaw P wo (pTi P) i = true
    · simp only [q, if_true] at e
      exact ⟨i, hi, q, e⟩
    · simp only [q, if_false] at e
      exact zero e.symm
theorem nOr_bit (c i : Nat) : (nOr c).testBit i = true ↔ ∃ g, g < 4 ∧ (nS c g).testBit i = true := by
  unfold nOr
  rw [zor_bit, decide_eq_true_eq]
theorem nOr_lt (c : Nat) : nOr c < 64 := zor_lt (m := 6) 4 (fun j => nS_lt c j)
theorem nLaw_pR {P : zP} {wo ti c g i : Nat} (h : nLaw P wo ti c = true) (hg : g < 4) (hi : (nS c g).testBit i = true) : i < pR P := zrow_pR (nLaw_row h hg) (nS_lt c g) hi
/-- everyone but those of a set -/
def nBut (P : zP) (s : Nat) : Nat := zdif (2 ^ pR P - 1) s
theorem nBut_bit (P : zP) (s i : Nat) : (nBut P s).testBit i = (decide (i < pR P) && !s.testBit i) := by
  unfold nBut
  rw [zdif_bit, Nat.testBit_two_pow_sub_one]
theorem nAm_but (P : zP) (s : Nat) : nAm P s (nBut P s) := nBut_bit P s
theorem nAm_set {P : zP} {s : Nat} (hs : s < 2 ^ pR P) : nAm P (nBut P s) s := fun i => by
  rw [nBut_bit]
  by_cases q : i < pR P
  · rw [decide_eq_true q]; cases s.testBit i <;> rfl
  · rw [decide_eq_false q, Nat.testBit_lt_two_pow (Nat.lt_of_lt_of_le hs (Nat.pow_le_pow_right (by decide) (by omega)))]; rfl
theorem nAm_all (P : zP) : nAm P 0 (2 ^ pR P - 1) := fun i => by
  rw [Nat.testBit_two_pow_sub_one, Nat.zero_testBit, Bool.not_false, Bool.and_true]
theorem zcnt_sub {p q : Nat → Bool} {n : Nat} (h : ∀ i, i < n → p i = true → q i = true) : zcnt p n ≤ zcnt q n := by
  induction n with
  | zero => exact Nat.le_refl _
  | succ n ih =>
    have e := ih (fun i hi => h i (by omega))
    have e2 := h n (by omega)
    simp only [zcnt]
    by_cases q1 : p n = true
    · rw [if_pos q1, if_pos (e2 q1)]; omega
    · rw [if_neg q1]; omega
def nEno (P : zP) (k : Nat) : Prop := ∃ s, s < 2 ^ pR P ∧ zpop s = k ∧ nCan P (nBut P s) (pTi P)
theorem nFew_le {P : zP} {k : Nat} (h : nEno P k) : nFew P ≤ k := by
  obtain ⟨s, hs, hk, c, hc, hl, hr⟩ := h
  have h0 : nLaw P 0 (pTi P) c = true := nLaw_mono (fun g _ => Nat.and_zero _) (nLaw_ti hl) hl
  have e : nRung c = nMost P 0 := Nat.le_antisymm (nRung_most hc h0) hr
  have t : nTopLaw P c = true := by unfold nTopLaw; rw [h0, decide_eq_true e]; rfl
  refine Nat.le_trans (zmn_le hc t) ?_
  rw [← hk]
  refine zcnt_sub (fun i _ hi => ?_)
  obtain ⟨g, hg, hb⟩ := (nOr_bit c i).mp hi
  have hw := congrArg (fun z => z.testBit i) (nLaw_wo hl g hg)
  simp only [Nat.testBit_and, Nat.zero_testBit] at hw
  rw [hb, Bool.true_and, nBut_bit, decide_eq_true (nLaw_pR hl hg hb), Bool.true_and] at hw
  simpa using hw
theorem nTop_at {P : zP} (ok : okP P) (f : Nat → Nat) (hf : ∀ c, f c ≤ 100) : ∃ c, c < 2 ^ 24 ∧ nTopLaw P c = true ∧ f c = zmn (nTopLaw P) f (2 ^ 24) := by
  obtain ⟨c0, h1, h2, h3, h4⟩ := nBest_at (tw := 0) ok (by decide)
  have t0 : nTopLaw P c0 = true := by unfold nTopLaw; rw [h2, decide_eq_true h4]; rfl
  rcases zmn_at (p := nTopLaw P) (f := f) (2 ^ 24) with e | ⟨c, q1, q2, q3⟩
  · have := zmn_le (f := f) h1 t0
    rw [e] at this
    exact absurd (Nat.le_trans this (hf c0)) (by decide)
  · exact ⟨c, q1, q2, q3⟩
theorem nFew_eno {P : zP} (ok : okP P) : nEno P (nFew P) := by
  obtain ⟨c, h1, h2, h3⟩ := nTop_at ok (fun c => zpop (nOr c)) (fun c => Nat.le_trans (zpop_le _) (by decide))
  unfold nTopLaw at h2
  rw [Bool.and_eq_true, decide_eq_true_eq] at h2
  refine ⟨nOr c, Nat.lt_pow_two_of_testBit _ (fun i hi => ?_), h3, c, h1, nLaw_mono (fun g hg => Nat.eq_of_testBit_eq (fun i => ?_)) (nLaw_ti h2.1) h2.1, Nat.le_of_eq h2.2.symm⟩
  · cases e : (nOr c).testBit i with
    | false => rfl
    | true =>
      obtain ⟨g, hg, hb⟩ := (nOr_bit c i).mp e
      have := nLaw_pR h2.1 hg hb
      omega
  · rw [Nat.testBit_and, Nat.zero_testBit, nBut_bit]
    cases e : (nS c g).testBit i with
    | false => rfl
    | true =>
      rw [(nOr_bit c i).mpr ⟨g, hg, e⟩]
      simp
theorem nFew_pR {P : zP} (ok : okP P) : nFew P ≤ pR P := by
  obtain ⟨s, hs, hk, -⟩ := nFew_eno ok
  rw [← hk]
  have key : ∀ n, zcnt (fun k => s.testBit k) n ≤ pR P := by
    intro n
    induction n with
    | zero => exact Nat.zero_le _
    | succ n ih =>
      rcases Nat.lt_or_ge n (pR P) with q | q
      · exact Nat.le_trans (zcnt_le _ _) q
      · rw [zcnt, Nat.testBit_lt_two_pow (Nat.lt_of_lt_of_le hs (Nat.pow_le_pow_right (by decide) q))]
        simpa using ih
  exact key 6
theorem nCan_even {P : zP} {t : Nat} (ok : okP P) (ht : t ≤ pTi P) : nCan P 0 t ↔ nEven P ≤ t := by
  constructor
  · rintro ⟨c, hc, hl, hr⟩
    have h0 : nLaw P 0 (pTi P) c = true := nLaw_mono (fun g _ => Nat.and_zero _) (fun r hr => Nat.le_trans (nLaw_ti hl r hr) ht) hl
    have e : nRung c = nMost P 0 := Nat.le_antisymm (nRung_most hc h0) hr
    have tp : nTopLaw P c = true := by unfold nTopLaw; rw [h0, decide_eq_true e]; rfl
    exact Nat.le_trans (zmn_le hc tp) (zmx_le (fun r hr => nLaw_ti hl r hr))
  · intro h
    obtain ⟨c, h1, h2, h3⟩ := nTop_at ok nTop (fun c => Nat.le_trans (zmx_le (m := 4) (fun r _ => zcnt_le _ _)) (by decide))
    unfold nTopLaw at h2
    rw [Bool.and_eq_true, decide_eq_true_eq] at h2
    have h3 : nTop c = nEven P := h3
    refine ⟨c, h1, nLaw_mono (fun g _ => Nat.and_zero _) (fun r hr => ?_) h2.1, Nat.le_of_eq h2.2.symm⟩
    exact Nat.le_trans (le_zmx (f := fun r => zcnt (fun g => (nS c g).testBit r) 4) hr) (Nat.le_trans (Nat.le_of_eq h3) h)
theorem nEven_le {P : zP} (ok : okP P) : nEven P ≤ pTi P := by
  obtain ⟨c, h1, h2, h3, h4⟩ := nBest_at (tw := 0) ok (by decide)
  exact (nCan_even ok (Nat.le_refl _)).mp ⟨c, h1, h2, Nat.le_of_eq h4.symm⟩
theorem nCan_need {P : zP} {wo : Nat} : nCan P wo (pTi P) ↔ ¬ nMost P wo < nMost P 0 := by
  constructor
  · rintro ⟨c, hc, hl, hr⟩
    exact Nat.not_lt.mpr (Nat.le_trans hr (nRung_most hc hl))
  · intro h
    obtain ⟨c, h1, h2, h3⟩ := nMost_at P wo
    exact ⟨c, h1, h2, by rw [h3]; exact Nat.not_lt.mp h⟩
/-- who does not ring in the best night is not needed -/
theorem nNeed_not {P : zP} {tw r : Nat} (ok : okP P) (htw : tw ≤ 60) (hr : r < 6) (h : ∀ g, g < 4 → nBell P tw r g = 0) : ¬ nMost P (1 <<< r) < nMost P 0 := by
  obtain ⟨c, h1, h2, h3, h4⟩ := nBest_at (tw := tw) ok htw
  refine nCan_need.mp ⟨c, h1, nLaw_mono (fun g hg => Nat.eq_of_testBit_eq (fun i => ?_)) (nLaw_ti h2) h2, Nat.le_of_eq h4.symm⟩
  rw [Nat.testBit_and, Nat.zero_testBit]
  by_cases q : i = r
  · have e := h g hg
    unfold nBell at e
    rw [← h3, nKey_dig hr hg] at e
    have : (nS c g).testBit r = false := by
      cases z : (nS c g).testBit r with
      | false => rfl
      | true => exact absurd e ((nDig_bit h2 hr hg).mpr z)
    rw [q, this, Bool.false_and]
  · rw [Nat.one_shiftLeft, Nat.testBit_two_pow, decide_eq_false (fun z => q z.symm), Bool.and_false]
