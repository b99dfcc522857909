/-! NIGHTS (10): what the best night says of a ringer -/
theorem zdigs : ∀ (n : Nat) (e : Nat → Nat) (i : Nat), (∀ k, k < n → e k < 4) → i < n → zsum (fun k => e k * 4 ^ k) n / 4 ^ i % 4 = e i
  | 0, e, i, _, hi => absurd hi (Nat.not_lt_zero _)
  | n + 1, e, i, h, hi => by
    have e1 : zsum (fun k => e k * 4 ^ k) (n + 1) = e 0 + 4 * zsum (fun k => e (k + 1) * 4 ^ k) n := by
      rw [zsum_shift, Nat.pow_zero, Nat.mul_one]
      have : ∀ n, zsum (fun k => e (k + 1) * 4 ^ (k + 1)) n = 4 * zsum (fun k => e (k + 1) * 4 ^ k) n := by
        intro n
        induction n with
        | zero => rfl
        | succ n ih => rw [zsum, zsum, ih, Nat.mul_add, Nat.pow_succ, Nat.mul_left_comm 4, Nat.mul_comm (4 ^ n) 4]
      rw [this]
    rw [e1]
    have h0 := h 0 (by omega)
    cases i with
    | zero =>
      rw [Nat.pow_zero, Nat.div_one]
      omega
    | succ i =>
      have ih := zdigs n (fun k => e (k + 1)) i (fun k hk => h (k + 1) (by omega)) (by omega)
      rw [Nat.pow_succ, Nat.mul_comm (4 ^ i), ← Nat.div_div_eq_div_mul, show (e 0 + 4 * zsum (fun k => e (k + 1) * 4 ^ k) n) / 4 = zsum (fun k => e (k + 1) * 4 ^ k) n by omega]
      exact ih
def nDig (P : zP) (c r g : Nat) : Nat := (zrow P g (nS c g)).getD 0 / 4 ^ r % 4
theorem nCode_digs (P : zP) (c : Nat) : nCode P c = zsum (fun k => nDig P c ((23 - k) / 4) ((23 - k) % 4) * 4 ^ k) 24 := by
  unfold nCode zspread nDig
  generalize (fun g => (zrow P g (nS c g)).getD 0) = w
  simp only [zsum, Nat.reduceSub, Nat.reduceDiv, Nat.reduceMod, Nat.reduceMul, Nat.reduceAdd]
  omega
theorem nCode_dig (P : zP) (c : Nat) {r g : Nat} (hr : r < 6) (hg : g < 4) : nCode P c / 4 ^ (23 - (4 * r + g)) % 4 = nDig P c r g := by
  rw [nCode_digs, zdigs 24 (fun k => nDig P c ((23 - k) / 4) ((23 - k) % 4)) (23 - (4 * r + g)) (fun k _ => Nat.mod_lt _ (by decide)) (by omega)]
  rw [show (23 - (23 - (4 * r + g))) / 4 = r by omega, show (23 - (23 - (4 * r + g))) % 4 = g by omega]
/-- the bell of a ringer in the best night, and one; 0: none -/
def nBell (P : zP) (tw r g : Nat) : Nat := nBest P tw / 2 ^ (46 - 2 * (4 * r + g)) % 4
theorem nKey_dig {P : zP} {tw c : Nat} {r g : Nat} (hr : r < 6) (hg : g < 4) : nKey P tw c / 2 ^ (46 - 2 * (4 * r + g)) % 4 = nDig P c r g := by
  rw [z_shift hr hg, ← nCode_dig P c hr hg]
  have e : nKey P tw c = 4 ^ 24 * ((pAll P - nRung c) * 2 ^ 11 + nWalk P tw c) + nCode P c := by
    unfold nKey
    generalize nCode P c = z
    generalize nWalk P tw c = w
    generalize pAll P - nRung c = a
    omega
  have e2 : 4 ^ 24 = 4 ^ (23 - (4 * r + g)) * (4 * 4 ^ (4 * r + g)) := by
    rw [← Nat.pow_succ', ← Nat.pow_add, show 23 - (4 * r + g) + (4 * r + g).succ = 24 by omega]
  rw [e, e2, Nat.mul_assoc, Nat.mul_add_div (Nat.pow_pos (by decide)), Nat.mul_assoc, Nat.mul_add_mod]
theorem zseat_dig (P : zP) (g s : Nat) : ∀ j, j ≤ 6 → ∀ tk x, zseat P g s j tk = some x → ∀ i, 6 - j ≤ i → i < 6 → (x / 4 ^ i % 4 ≠ 0 ↔ s.testBit i = true)
  | 0, _, tk, x, h, i, hi, h6 => by omega
  | j + 1, hj, tk, x, h, i, hi, h6 => by
    have ih := zseat_dig P g s j (by omega)
    by_cases hs : s.testBit (5 - j) = true
    · rw [zseat_sb P g s j tk hs] at h
      have key : ∀ k, k ≤ 3 → ∀ x, zsb (fun b => if (zdif (sBells P (5 - j) g) tk).testBit b then zseat P g s j (tk ||| 1 <<< b) else none) (4 ^ (5 - j)) k = some x → ∃ b v y, zseat P g s j (tk ||| 1 <<< b) = some y ∧ 1 ≤ v ∧ v < 4 ∧ x = y + v * 4 ^ (5 - j) := by
        intro k
        induction k with
        | zero => intro _ x h; cases h
        | succ k ihk =>
          intro hk x h
          simp only [zsb] at h
          split at h
          · next z hz =>
            split at hz
            · next hb =>
              simp only [Option.some.injEq] at h
              exact ⟨_, 3 - k, z, hz, by omega, by omega, h.symm⟩
            · cases hz
          · exact ihk (by omega) x h
      obtain ⟨b, v, y, hy, hv1, hv4, rfl⟩ := key 3 (by decide) x h
      obtain ⟨y', rfl⟩ := zseat_mul P g s j (by omega) _ _ hy
      rw [show 6 - j = (5 - j) + 1 by omega, zdig (by omega) h6 hv4]
      by_cases q : i = 5 - j
      · rw [if_pos q, q, hs]
        exact ⟨fun _ => rfl, fun _ => by omega⟩
      · rw [if_neg q]
        have := ih _ _ hy i (by omega) h6
        rw [show 6 - j = (5 - j) + 1 by omega] at this
        exact this
    · simp only [zseat, if_neg hs] at h
      by_cases q : i = 5 - j
      · obtain ⟨y', rfl⟩ := zseat_mul P g s j (by omega) _ _ h
        rw [q, show 6 - j = (5 - j) + 1 by omega, zdig0]
        exact ⟨fun z => absurd rfl z, fun z => absurd z hs⟩
      · exact ih _ _ h i (by omega) h6
theorem nDig_bit {P : zP} {wo ti c r g : Nat} (h : nLaw P wo ti c = true) (hr : r < 6) (hg : g < 4) : nDig P c r g ≠ 0 ↔ (nS c g).testBit r = true := by
  have h1 := nLaw_row h hg
  unfold nDig
  unfold zrow at h1 ⊢
  by_cases q : g < pH P
  · rw [if_pos q] at h1 ⊢
    by_cases z : zpop (nS c g) ≤ pW P g
    · rw [if_pos z] at h1 ⊢
      cases e : zseat P g (nS c g) 6 0 with
      | none => rw [e] at h1; cases h1
      | some x => exact zseat_dig P g (nS c g) 6 (Nat.le_refl _) 0 x e r (by omega) hr
    · rw [if_neg z] at h1; cases h1
  · rw [if_neg q] at h1 ⊢
    by_cases z : nS c g = 0
    · rw [if_pos z, z, Nat.zero_testBit]
      simp
    · rw [if_neg z] at h1; cases h1
