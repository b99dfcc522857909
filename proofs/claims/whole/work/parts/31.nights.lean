/-! NIGHTS (2): who may still ring; the least price, as numbers -/
def nPr (P : zP) (tw g s : Nat) : Nat := (nPrice P tw g s).getD (2 ^ 63 - 1)
def nLw (P : zP) (tw g s : Nat) : Nat := zmn (fun t => decide (t &&& s = t)) (nPr P tw g) 64
/-- who may still ring in hour k by what is picked in the first f hours -/
def nOpn (am tn re : Nat) (a : Nat → Nat) (k f : Nat) : Nat := zbits (fun r => am.testBit r && decide (zcnt (fun g => (a g).testBit r) f < tn) && zall (fun g => decide (re < k - g) || !(a g).testBit r) f) 6
def nCost (m : Nat → Nat) (P : zP) (tw : Nat) (b : Nat → Nat) (k : Nat) : Nat := zsum (fun i => m (nPr P tw (k + i) (b (k + i)))) (4 - k)
def nGood (P : zP) (tw am tn : Nat) (b : Nat → Nat) (g : Nat) : Prop := b g < 64 ∧ (nPrice P tw g (b g)).isSome = true ∧ zdif (b g) (nOpn am tn (pRe P) b g g) = 0
def nLat (m : Nat → Nat) (P : zP) (tw am tn : Nat) (a : Nat → Nat) (k : Nat) : Nat := zsum (fun i => m (nLw P tw (k + 1 + i) (nOpn am tn (pRe P) a (k + 1 + i) k))) (3 - k)
theorem zmn_le {p : Nat → Bool} {f : Nat → Nat} : ∀ {n i : Nat}, i < n → p i = true → zmn p f n ≤ f i
  | 0, i, hi, _ => absurd hi (Nat.not_lt_zero _)
  | n + 1, i, hi, hp => by
    simp only [zmn]
    by_cases q : i = n
    · subst q
      rw [if_pos hp]
      exact Nat.min_le_right _ _
    · have := zmn_le (p := p) (f := f) (n := n) (show i < n by omega) hp
      split
      · exact Nat.le_trans (Nat.min_le_left _ _) this
      · exact this
theorem zmn_top {p : Nat → Bool} {f : Nat → Nat} : ∀ n, zmn p f n ≤ 2 ^ 63 - 1
  | 0 => Nat.le_refl _
  | n + 1 => by
    simp only [zmn]
    split
    · exact Nat.le_trans (Nat.min_le_left _ _) (zmn_top n)
    · exact zmn_top n
theorem zmn_at {p : Nat → Bool} {f : Nat → Nat} : ∀ n, zmn p f n = 2 ^ 63 - 1 ∨ ∃ i, i < n ∧ p i = true ∧ f i = zmn p f n
  | 0 => Or.inl rfl
  | n + 1 => by
    simp only [zmn]
    have ih := zmn_at (p := p) (f := f) n
    split
    · next q =>
      rcases Nat.le_total (zmn p f n) (f n) with z | z
      · rw [Nat.min_eq_left z]
        rcases ih with e | ⟨i, h1, h2, h3⟩
        · exact Or.inl e
        · exact Or.inr ⟨i, by omega, h2, h3⟩
      · rw [Nat.min_eq_right z]
        exact Or.inr ⟨n, by omega, q, rfl⟩
    · rcases ih with e | ⟨i, h1, h2, h3⟩
      · exact Or.inl e
      · exact Or.inr ⟨i, by omega, h2, h3⟩
theorem zmn_ge {p : Nat → Bool} {f : Nat → Nat} {v n : Nat} (hv : v ≤ 2 ^ 63 - 1) (h : ∀ i, i < n → p i = true → v ≤ f i) : v ≤ zmn p f n := by
  rcases zmn_at (p := p) (f := f) n with e | ⟨i, h1, h2, h3⟩
  · rw [e]; exact hv
  · rw [← h3]; exact h i h1 h2
theorem zcnt_mono {p : Nat → Bool} {n m : Nat} (h : n ≤ m) : zcnt p n ≤ zcnt p m := by
  induction m with
  | zero => rw [show n = 0 by omega]; exact Nat.le_refl _
  | succ m ih =>
    rcases Nat.lt_or_ge n (m + 1) with q | q
    · simp only [zcnt]
      have := ih (by omega)
      omega
    · rw [show n = m + 1 by omega]; exact Nat.le_refl _
theorem zdif_0 {a b : Nat} : zdif a b = 0 ↔ ∀ i, a.testBit i = true → b.testBit i = true := by
  constructor
  · intro h i hi
    have := zdif_bit a b i
    rw [h, Nat.zero_testBit, hi] at this
    cases e : b.testBit i with
    | true => rfl
    | false => rw [e] at this; exact absurd this (by decide)
  · intro h
    apply Nat.eq_of_testBit_eq
    intro i
    rw [zdif_bit, Nat.zero_testBit]
    cases e : a.testBit i with
    | false => rfl
    | true => rw [h i e]; rfl
theorem zsub_and {a b : Nat} (h : ∀ i, a.testBit i = true → b.testBit i = true) : a &&& b = a := by
  apply Nat.eq_of_testBit_eq
  intro i
  rw [Nat.testBit_and]
  cases e : a.testBit i with
  | false => rfl
  | true => rw [h i e]; rfl
theorem zand_sub {a b : Nat} (h : a &&& b = a) : ∀ i, a.testBit i = true → b.testBit i = true := by
  intro i hi
  rw [← h, Nat.testBit_and, Bool.and_eq_true] at hi
  exact hi.2
section
variable {P : zP} {tw am tn re k f g : Nat} {a b : Nat → Nat} {m : Nat → Nat}
theorem nOpn_bit (i : Nat) : (nOpn am tn re a k f).testBit i = (decide (i < 6) && (am.testBit i && decide (zcnt (fun g => (a g).testBit i) f < tn) && zall (fun g => decide (re < k - g) || !(a g).testBit i) f)) := zbits_bit _ _ _
theorem nOpn_lt : nOpn am tn re a k f < 64 := zbits_lt _ _
theorem nOpn_congr (h : ∀ g, g < f → a g = b g) : nOpn am tn re a k f = nOpn am tn re b k f := zbits_congr (fun r _ => by
  rw [zcnt_congr (q := fun g => (b g).testBit r) (fun g hg => by rw [h g hg])]
  congr 1
  rw [Bool.eq_iff_iff, zall_iff, zall_iff]
  exact ⟨fun q j hj => by rw [← h j hj]; exact q j hj, fun q j hj => by rw [h j hj]; exact q j hj⟩)
theorem nOpn_mono {f' : Nat} (h : f ≤ f') (i : Nat) (hi : (nOpn am tn re a k f').testBit i = true) : (nOpn am tn re a k f).testBit i = true := by
  rw [nOpn_bit] at hi ⊢
  simp only [Bool.and_eq_true, decide_eq_true_eq, zall_iff] at hi ⊢
  obtain ⟨h1, ⟨h2, h3⟩, h4⟩ := hi
  exact ⟨h1, ⟨h2, Nat.lt_of_le_of_lt (zcnt_mono h) h3⟩, fun j hj => h4 j (by omega)⟩
/-- a set that may ring costs no less than the least of those that may -/
theorem nGood_le (hb : nGood P tw am tn b g) (hf : f ≤ g) (hab : ∀ j, j < f → a j = b j) : nLw P tw g (nOpn am tn (pRe P) a g f) ≤ nPr P tw g (b g) := by
  obtain ⟨h1, h2, h3⟩ := hb
  refine zmn_le h1 (decide_eq_true (zsub_and (fun i hi => ?_)))
  rw [nOpn_congr hab]
  exact nOpn_mono hf i (zdif_0.mp h3 i hi)
theorem zsum_mono {p q : Nat → Nat} {n : Nat} (h : ∀ i, i < n → p i ≤ q i) : zsum p n ≤ zsum q n := by
  induction n with
  | zero => exact Nat.le_refl _
  | succ n ih =>
    have := ih (fun i hi => h i (by omega))
    have := h n (by omega)
    simp only [zsum]
    omega
theorem zsum_shift (p : Nat → Nat) (n : Nat) : zsum p (n + 1) = p 0 + zsum (fun i => p (i + 1)) n := by
  induction n with
  | zero => simp [zsum]
  | succ n ih => rw [zsum, ih, zsum]; omega
theorem nCost_step (hk : k < 4) : nCost m P tw b k = m (nPr P tw k (b k)) + nCost m P tw b (k + 1) := by
  unfold nCost
  rw [show 4 - k = (4 - (k + 1)) + 1 by omega, zsum_shift, Nat.add_zero, zsum_congr (q := fun i => m (nPr P tw (k + 1 + i) (b (k + 1 + i)))) (fun i _ => by rw [show k + (i + 1) = k + 1 + i by omega])]
theorem nCost_4 : nCost m P tw b 4 = 0 := rfl
/-- the hours behind k cost no less than what is known of them -/
theorem nLat_le (hm : ∀ x y, x ≤ y → m x ≤ m y) (hk : k < 4) (hab : ∀ j, j < k → a j = b j) (hb : ∀ g, k + 1 ≤ g → g < 4 → nGood P tw am tn b g) : nLat m P tw am tn a k ≤ nCost m P tw b (k + 1) := by
  unfold nLat nCost
  rw [show 4 - (k + 1) = 3 - k by omega]
  exact zsum_mono (fun i hi => hm _ _ (nGood_le (hb (k + 1 + i) (by omega) (by omega)) (by omega) hab))
end
