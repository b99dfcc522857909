/-! NIGHTS (7): nights as codes -/
def nEnc (b : Nat → Nat) : Nat := b 0 + 64 * b 1 + 4096 * b 2 + 262144 * b 3
theorem nS_lt (c g : Nat) : nS c g < 64 := Nat.mod_lt _ (by decide)
theorem nEnc_lt {b : Nat → Nat} (h : ∀ g, g < 4 → b g < 64) : nEnc b < 2 ^ 24 := by
  have h0 := h 0 (by decide)
  have h1 := h 1 (by decide)
  have h2 := h 2 (by decide)
  have h3 := h 3 (by decide)
  unfold nEnc
  omega
theorem nS_enc {b : Nat → Nat} (h : ∀ g, g < 4 → b g < 64) {g : Nat} (hg : g < 4) : nS (nEnc b) g = b g := by
  have h0 := h 0 (by decide)
  have h1 := h 1 (by decide)
  have h2 := h 2 (by decide)
  have h3 := h 3 (by decide)
  unfold nS nEnc
  rw [Nat.shiftRight_eq_div_pow]
  rcases (show g = 0 ∨ g = 1 ∨ g = 2 ∨ g = 3 by omega) with rfl | rfl | rfl | rfl <;> simp only [Nat.reduceMul, Nat.reducePow] <;> omega
theorem zseat_pR (P : zP) (g s : Nat) : ∀ j, j ≤ 6 → ∀ tk x, zseat P g s j tk = some x → ∀ i, 6 - j ≤ i → i < 6 → s.testBit i = true → i < pR P
  | 0, _, tk, x, h, i, hi, h6, hb => by omega
  | j + 1, hj, tk, x, h, i, hi, h6, hb => by
    have ih := zseat_pR P g s j (by omega)
    by_cases hs : s.testBit (5 - j) = true
    · rw [zseat_sb P g s j tk hs] at h
      have key : ∀ k, k ≤ 3 → ∀ x, zsb (fun b => if (zdif (sBells P (5 - j) g) tk).testBit b then zseat P g s j (tk ||| 1 <<< b) else none) (4 ^ (5 - j)) k = some x → ∃ b y, (zdif (sBells P (5 - j) g) tk).testBit b = true ∧ zseat P g s j (tk ||| 1 <<< b) = some y := by
        intro k
        induction k with
        | zero => intro _ x h; cases h
        | succ k ihk =>
          intro hk x h
          simp only [zsb] at h
          split at h
          · next z hz =>
            split at hz
            · next hb => exact ⟨_, _, hb, hz⟩
            · cases hz
          · exact ihk (by omega) x h
      obtain ⟨b, y, hb1, hy⟩ := key 3 (by decide) x h
      rcases Nat.lt_or_ge (5 - j) i with q | q
      · exact ih _ _ hy i (by omega) h6 hb
      · have e : i = 5 - j := by omega
        rw [e]
        rw [zdif_bit, Bool.and_eq_true] at hb1
        rcases Nat.lt_or_ge (5 - j) (pR P) with w | w
        · exact w
        · have : sBells P (5 - j) g = 0 := by unfold sBells; rw [if_neg (by omega)]
          rw [this, Nat.zero_testBit] at hb1
          exact absurd hb1.1 (by decide)
    · simp only [zseat, if_neg hs] at h
      rcases Nat.lt_or_ge (5 - j) i with q | q
      · exact ih _ _ h i (by omega) h6 hb
      · rw [show i = 5 - j by omega] at hb
        exact absurd hb hs
theorem zrow_pR {P : zP} {g s i : Nat} (h : (zrow P g s).isSome = true) (hs : s < 64) (hi : s.testBit i = true) : i < pR P := by
  have h6 : i < 6 := by
    rcases Nat.lt_or_ge i 6 with q | q
    · exact q
    · rw [Nat.testBit_lt_two_pow (Nat.lt_of_lt_of_le hs (Nat.pow_le_pow_right (n := 2) (by decide) q))] at hi
      exact absurd hi (by decide)
  unfold zrow at h
  split at h
  · split at h
    · cases e : zseat P g s 6 0 with
      | none => rw [e] at h; cases h
      | some x => exact zseat_pR P g s 6 (Nat.le_refl _) 0 x e i (by omega) h6 hi
    · cases h
  · split at h
    · next q => rw [q, Nat.zero_testBit] at hi; exact absurd hi (by decide)
    · cases h
theorem nPrice_isSome {P : zP} {tw g s : Nat} : (nPrice P tw g s).isSome = (zrow P g s).isSome := by
  unfold nPrice
  rw [Option.isSome_map]
/-- those of a parish that are not kept out -/
def nAm (P : zP) (wo am : Nat) : Prop := ∀ i, am.testBit i = (decide (i < pR P) && !wo.testBit i)
theorem nLaw_iff {P : zP} {wo am tn tw c : Nat} {b : Nat → Nat} (ham : nAm P wo am) (hb : ∀ g, g < 4 → b g = nS c g) : nLaw P wo tn c = true ↔ ∀ g, g < 4 → nGood P tw am tn b g := by
  have cn : ∀ r f, f ≤ 4 → zcnt (fun g => (nS c g).testBit r) f = zcnt (fun g => (b g).testBit r) f := fun r f hf => zcnt_congr (fun g hg => by rw [hb g (by omega)])
  unfold nLaw
  simp only [Bool.and_eq_true, zall_iff, decide_eq_true_eq, Bool.or_eq_true]
  constructor
  · rintro ⟨⟨h1, h2⟩, h3⟩ g hg
    have hs := nS_lt c g
    rw [← hb g hg] at hs
    refine ⟨hs, by rw [nPrice_isSome, hb g hg]; exact (h1 g hg).1, zdif_0.mpr (fun i hi => ?_)⟩
    have hr := zrow_pR (h1 g hg).1 (nS_lt c g) (by rw [← hb g hg]; exact hi)
    have h6 : i < 6 := by
      rcases Nat.lt_or_ge i 6 with q | q
      · exact q
      · rw [Nat.testBit_lt_two_pow (Nat.lt_of_lt_of_le hs (Nat.pow_le_pow_right (n := 2) (by decide) q))] at hi
        exact absurd hi (by decide)
    have hw : wo.testBit i = false := by
      have := congrArg (fun z => z.testBit i) (h1 g hg).2
      simp only [Nat.testBit_and, Nat.zero_testBit] at this
      rw [← hb g hg, hi, Bool.true_and] at this
      exact this
    rw [nOpn_bit]
    simp only [Bool.and_eq_true, zall_iff, decide_eq_true_eq, Bool.or_eq_true]
    refine ⟨h6, ⟨by rw [ham i, decide_eq_true hr, hw]; rfl, ?_⟩, fun k hk => ?_⟩
    · have e := h3 i h6
      rw [cn i 4 (by omega)] at e
      have m := zcnt_mono (p := fun g => (b g).testBit i) (show g + 1 ≤ 4 by omega)
      simp only [zcnt, hi, if_true] at m
      simp only [zcnt] at e
      omega
    · rcases h2 g hg k hk with q | q
      · exact Or.inl q
      · refine Or.inr ?_
        have := congrArg (fun z => z.testBit i) q
        simp only [Nat.testBit_and, Nat.zero_testBit] at this
        rw [← hb g hg, ← hb k (by omega), hi, Bool.true_and] at this
        rw [this]; rfl
  · intro h
    have bits : ∀ g, g < 4 → ∀ i, (b g).testBit i = true → i < 6 ∧ am.testBit i = true ∧ zcnt (fun g => (b g).testBit i) g < tn ∧ ∀ k, k < g → pRe P < g - k ∨ (b k).testBit i = false := by
      intro g hg i hi
      have e := zdif_0.mp (h g hg).2.2 i hi
      rw [nOpn_bit] at e
      simp only [Bool.and_eq_true, zall_iff, decide_eq_true_eq, Bool.or_eq_true, Bool.not_eq_true'] at e
      exact ⟨e.1, e.2.1.1, e.2.1.2, e.2.2⟩
    refine ⟨⟨fun g hg => ⟨?_, ?_⟩, fun g hg k hk => ?_⟩, fun r hr => ?_⟩
    · rw [← hb g hg, ← nPrice_isSome (tw := tw)]
      exact (h g hg).2.1
    · apply Nat.eq_of_testBit_eq
      intro i
      rw [Nat.testBit_and, Nat.zero_testBit, ← hb g hg]
      cases e : (b g).testBit i with
      | false => rfl
      | true =>
        have := (bits g hg i e).2.1
        rw [ham i] at this
        simp only [Bool.and_eq_true, Bool.not_eq_true'] at this
        rw [this.2]; rfl
    · by_cases q : pRe P < g - k
      · exact Or.inl q
      · refine Or.inr (Nat.eq_of_testBit_eq (fun i => ?_))
        rw [Nat.testBit_and, Nat.zero_testBit, ← hb g hg, ← hb k (by omega)]
        cases e : (b g).testBit i with
        | false => rfl
        | true =>
          rcases (bits g hg i e).2.2.2 k hk with w | w
          · exact absurd w q
          · rw [w]; rfl
    · rw [cn r 4 (Nat.le_refl _)]
      have key : ∀ f, f ≤ 4 → zcnt (fun g => (b g).testBit r) f ≤ tn := by
        intro f
        induction f with
        | zero => intro _; exact Nat.zero_le _
        | succ f ih =>
          intro hf
          simp only [zcnt]
          by_cases e : (b f).testBit r = true
          · rw [if_pos e]; exact (bits f (by omega) r e).2.2.1
          · rw [if_neg e]; exact ih (by omega)
      exact key 4 (Nat.le_refl _)
