/-! NIGHTS AS THE MODEL HAS THEM: four crews, hour by hour -/
def bFull (P : zP) (b : Nat → Nat) (k : Nat) : Nat := if pTi P = 1 then zo1 b k else if pTi P = 2 then zo2 b k else if pTi P = 3 then zo3 b k else 0
def bFol (P : zP) (wo : Nat) (b : Nat → Nat) (k s : Nat) : Bool := decide (s &&& wo = 0) && zall (fun g => decide (pRe P < k - g) || decide (s &&& b g = 0)) k && decide (s &&& bFull P b k = 0)
def bRow (P : zP) (b : Nat → Nat) (k s : Nat) : Prop := s < 64 ∧ (zrow P k s).isSome = true
def bLaw (P : zP) (wo : Nat) (b : Nat → Nat) : Prop := ∀ g, g < 4 → (b g < 64 ∧ (zrow P g (b g)).isSome = true) ∧ bFol P wo b g (b g) = true
def bRung (b : Nat → Nat) : Nat → Nat := zsum (fun g => zpop (b g))
def bWf (P : zP) (k : Nat) : Nat := zsum (fun i => wN P (k + i)) (4 - k)
theorem and_0 {a b : Nat} : a &&& b = 0 ↔ ∀ i, a.testBit i = true → b.testBit i = false := by
  constructor
  · intro h i hi
    have := congrArg (fun z => z.testBit i) h
    simp only [Nat.testBit_and, Nat.zero_testBit, hi, Bool.true_and] at this
    exact this
  · intro h
    refine Nat.eq_of_testBit_eq (fun i => ?_)
    rw [Nat.testBit_and, Nat.zero_testBit]
    rcases Bool.eq_false_or_eq_true (a.testBit i) with w | w
    · rw [w, h i w]; rfl
    · rw [w]; rfl
theorem bFull_bit {P : zP} (okp : okP P) {b : Nat → Nat} {k : Nat} (hk : k < 4) (i : Nat) : (bFull P b k).testBit i = decide (pTi P ≤ zcnt (fun g => (b g).testBit i) k) := by
  have h := okp.2.2.2.1
  have hz := zcnt_le (fun g => (b g).testBit i) k
  unfold bFull
  rcases (show pTi P = 1 ∨ pTi P = 2 ∨ pTi P = 3 ∨ pTi P = 4 by omega) with e | e | e | e
  · rw [e, if_pos rfl, zo1_bit]
  · rw [e, if_neg (by decide), if_pos rfl, zo2_bit]
  · rw [e, if_neg (by decide), if_neg (by decide), if_pos rfl, zo3_bit]
  · rw [e, if_neg (by decide), if_neg (by decide), if_neg (by decide), Nat.zero_testBit, decide_eq_false (by omega)]
theorem bFol_iff {P : zP} (okp : okP P) {wo k s : Nat} {b : Nat → Nat} (hk : k < 4) : bFol P wo b k s = true ↔ ∀ i, s.testBit i = true → wo.testBit i = false ∧ (∀ g, g < k → pRe P < k - g ∨ (b g).testBit i = false) ∧ zcnt (fun g => (b g).testBit i) k < pTi P := by
  unfold bFol
  simp only [Bool.and_eq_true, decide_eq_true_eq, zall_iff, Bool.or_eq_true, and_0]
  constructor
  · rintro ⟨⟨h1, h2⟩, h3⟩ i hi
    refine ⟨h1 i hi, fun g hg => ?_, ?_⟩
    · rcases h2 g hg with q | q
      · exact Or.inl q
      · exact Or.inr (q i hi)
    · have := h3 i hi
      rw [bFull_bit okp hk] at this
      have := of_decide_eq_false this
      omega
  · intro h
    refine ⟨⟨fun i hi => (h i hi).1, fun g hg => ?_⟩, fun i hi => ?_⟩
    · by_cases q : pRe P < k - g
      · exact Or.inl q
      · exact Or.inr (fun i hi => by
          rcases (h i hi).2.1 g hg with w | w
          · exact absurd w q
          · exact w)
    · rw [bFull_bit okp hk]
      have := (h i hi).2.2
      exact decide_eq_false (by omega)
theorem bFol_congr {P : zP} {wo k s : Nat} {a b : Nat → Nat} (okp : okP P) (hk : k < 4) (h : ∀ g, g < k → a g = b g) : bFol P wo a k s = bFol P wo b k s := by
  rw [Bool.eq_iff_iff, bFol_iff okp hk, bFol_iff okp hk]
  refine forall_congr' fun i => forall_congr' fun _ => ?_
  have e : zcnt (fun g => (a g).testBit i) k = zcnt (fun g => (b g).testBit i) k := zcnt_congr (fun g hg => by rw [h g hg])
  rw [e]
  refine and_congr_right fun _ => and_congr_left fun _ => forall_congr' fun g => forall_congr' fun hg => ?_
  rw [h g hg]
theorem bLaw_code {P : zP} (okp : okP P) {wo c : Nat} : bLaw P wo (nS c) ↔ nLaw P wo (pTi P) c = true := by
  rw [nLaw_iff (tw := 0) (am := nBut P wo) (b := nS c) (nAm_but P wo) (fun g _ => rfl)]
  refine forall_congr' fun g => forall_congr' fun hg => ?_
  unfold nGood
  rw [nPrice_isSome, bFol_iff okp hg, zdif_0, and_assoc]
  refine and_congr_right fun h64 => and_congr_right fun hrow => forall_congr' fun i => forall_congr' fun hi => ?_
  have hr := zrow_pR hrow h64 hi
  have h6 : i < 6 := by have := okp.2.1; omega
  rw [nOpn_bit]
  simp only [Bool.and_eq_true, decide_eq_true_eq, zall_iff, Bool.or_eq_true, Bool.not_eq_true']
  rw [nBut_bit, decide_eq_true hr, Bool.true_and, Bool.not_eq_true']
  constructor
  · rintro ⟨a, b, c⟩
    exact ⟨h6, ⟨a, c⟩, b⟩
  · rintro ⟨-, ⟨a, c⟩, b⟩
    exact ⟨a, b, c⟩
theorem bLaw_congr {P : zP} (okp : okP P) {wo : Nat} {a b : Nat → Nat} (h : ∀ g, g < 4 → a g = b g) : bLaw P wo a ↔ bLaw P wo b := by
  refine forall_congr' fun g => forall_congr' fun hg => ?_
  rw [h g hg, bFol_congr okp hg (fun k hk => h k (by omega))]
theorem bLaw_enc {P : zP} (okp : okP P) {wo : Nat} {b : Nat → Nat} (h : bLaw P wo b) : nLaw P wo (pTi P) (nEnc b) = true :=
  (bLaw_code okp).mp ((bLaw_congr okp (fun g hg => (nS_enc (fun k hk => (h k hk).1.1) hg))).mpr h)
theorem zrow_pRun {P : zP} {b : Nat → Nat} {wo : Nat} (h : bLaw P wo b) {k : Nat} (hk : k < 4) : bRung b 4 ≤ bRung b k + zpop (b k) + bWf P (k + 1) := by
  have w : ∀ g, g < 4 → zpop (b g) ≤ wN P g := fun g hg => zrow_pop (h g hg).1.2
  have w0 := w 0 (by decide)
  have w1 := w 1 (by decide)
  have w2 := w 2 (by decide)
  have w3 := w 3 (by decide)
  rcases (show k = 0 ∨ k = 1 ∨ k = 2 ∨ k = 3 by omega) with rfl | rfl | rfl | rfl <;> simp only [bRung, bWf, zsum, Nat.reduceSub, Nat.reduceAdd, Nat.add_zero, Nat.zero_add] <;> omega
theorem bRung_congr {a b : Nat → Nat} {k : Nat} (h : ∀ g, g < k → a g = b g) : bRung a k = bRung b k := zsum_congr (fun g hg => by rw [h g hg])
/-- the rows of a night, as one number -/
def bCod (X : Nat → Nat) : Nat := zsum (fun g => zspread g (X g)) 4
theorem bCod_digs (X : Nat → Nat) : bCod X = zsum (fun k => X ((23 - k) % 4) / 4 ^ ((23 - k) / 4) % 4 * 4 ^ k) 24 := by
  unfold bCod zspread
  simp only [zsum, Nat.reduceSub, Nat.reduceDiv, Nat.reduceMod, Nat.reduceMul, Nat.reduceAdd]
  omega
theorem zdig_lt {e : Nat → Nat} (h : ∀ k, e k < 4) : ∀ n, zsum (fun k => e k * 4 ^ k) n < 4 ^ n
  | 0 => Nat.zero_lt_one
  | n + 1 => by
    have ih := zdig_lt h n
    have hn := h n
    have : e n * 4 ^ n ≤ 3 * 4 ^ n := Nat.mul_le_mul_right _ (by omega)
    rw [zsum, Nat.pow_succ]
    omega
theorem zdig_lex {e e' : Nat → Nat} (h : ∀ k, e k < 4) (j : Nat) (hlt : e j < e' j) : ∀ n, j < n → (∀ k, j < k → k < n → e k = e' k) → zsum (fun k => e k * 4 ^ k) n < zsum (fun k => e' k * 4 ^ k) n
  | 0, hj, _ => by omega
  | n + 1, hj, hk => by
    rw [zsum, zsum]
    by_cases q : j = n
    · subst q
      have h1 := zdig_lt h j
      have h2 : (e j + 1) * 4 ^ j ≤ e' j * 4 ^ j := Nat.mul_le_mul_right _ (by omega)
      rw [Nat.add_mul, Nat.one_mul] at h2
      omega
    · have ih := zdig_lex h j hlt n (by omega) (fun k h1 h2 => hk k h1 (by omega))
      rw [hk n (by omega) (by omega)]
      omega
/-- by ringers, of each by hours -/
theorem bCod_lex {X Y : Nat → Nat} {r g : Nat} (hr : r < 6) (hg : g < 4) (hlt : X g / 4 ^ r % 4 < Y g / 4 ^ r % 4) (heq : ∀ q k, q < 6 → k < 4 → (q < r ∨ (q = r ∧ k < g)) → X k / 4 ^ q % 4 = Y k / 4 ^ q % 4) : bCod X < bCod Y := by
  rw [bCod_digs, bCod_digs]
  refine zdig_lex (e := fun k => X ((23 - k) % 4) / 4 ^ ((23 - k) / 4) % 4) (e' := fun k => Y ((23 - k) % 4) / 4 ^ ((23 - k) / 4) % 4) (fun k => Nat.mod_lt _ (by decide)) (23 - (4 * r + g)) ?_ 24 (by omega) (fun k h1 h2 => ?_)
  · show X ((23 - (23 - (4 * r + g))) % 4) / 4 ^ ((23 - (23 - (4 * r + g))) / 4) % 4 < _
    rw [show 23 - (23 - (4 * r + g)) = 4 * r + g by omega, show (4 * r + g) % 4 = g by omega, show (4 * r + g) / 4 = r by omega]
    exact hlt
  · exact heq ((23 - k) / 4) ((23 - k) % 4) (by omega) (by omega) (by omega)
theorem bCod_same {X Y : Nat → Nat} (heq : ∀ q k, q < 6 → k < 4 → X k / 4 ^ q % 4 = Y k / 4 ^ q % 4) : bCod X = bCod Y := by
  rw [bCod_digs, bCod_digs]
  exact zsum_congr (fun k hk => by rw [heq ((23 - k) / 4) ((23 - k) % 4) (by omega) (by omega)])
theorem bCod_lt (X : Nat → Nat) : bCod X < 2 ^ 48 := by
  rw [bCod_digs]
  exact zdig_lt (fun k => Nat.mod_lt _ (by decide)) 24
def bX (P : zP) (b : Nat → Nat) (g : Nat) : Nat := (zrow P g (b g)).getD 0
def bWalk (P : zP) (tw : Nat) (b : Nat → Nat) : Nat := zsum (fun g => pWalk P tw (b g)) 4
/-- walking first, then the rows -/
def bLess (P : zP) (tw : Nat) (a b : Nat → Nat) : Prop := bWalk P tw a < bWalk P tw b ∨ (bWalk P tw a = bWalk P tw b ∧ bCod (bX P a) ≤ bCod (bX P b))
theorem bLess_rf {P : zP} {tw : Nat} {a : Nat → Nat} : bLess P tw a a := Or.inr ⟨rfl, Nat.le_refl _⟩
theorem bLess_tr {P : zP} {tw : Nat} {a b c : Nat → Nat} (h1 : bLess P tw a b) (h2 : bLess P tw b c) : bLess P tw a c := by
  unfold bLess at *
  omega
def bTop (b : Nat → Nat) : Nat := zmx (fun r => zcnt (fun g => (b g).testBit r) 4) 6
theorem zmx_is {f : Nat → Nat} {n t : Nat} (h1 : ∀ i, i < n → f i ≤ t) (h2 : t = 0 ∨ ∃ i, i < n ∧ f i = t) : zmx f n = t := by
  have h3 := zmx_le h1
  rcases h2 with h2 | ⟨i, hi, h2⟩
  · omega
  · have := le_zmx (f := f) hi
    omega
theorem ne_bit {a : Nat} (ha : a < 64) : a ≠ 0 ↔ ∃ i, i < 6 ∧ a.testBit i = true := by
  constructor
  · intro h
    refine Classical.byContradiction fun hn => h (Nat.eq_of_testBit_eq fun i => ?_)
    rw [Nat.zero_testBit]
    rcases Nat.lt_or_ge i 6 with q | q
    · rcases Bool.eq_false_or_eq_true (a.testBit i) with w | w
      · exact absurd ⟨i, q, w⟩ hn
      · exact w
    · exact Nat.testBit_lt_two_pow (Nat.lt_of_lt_of_le ha (Nat.pow_le_pow_right (n := 2) (by decide) q))
  · rintro ⟨i, -, h⟩ rfl
    rw [Nat.zero_testBit] at h; cases h
theorem or_lt64 {a b : Nat} (ha : a < 64) (hb : b < 64) : a ||| b < 64 := Nat.or_lt_two_pow (n := 6) ha hb
theorem and_lt64 {a b : Nat} (ha : a < 64) : a &&& b < 64 := Nat.lt_of_le_of_lt Nat.and_le_left ha
theorem zo1_lt {b : Nat → Nat} : ∀ {k : Nat}, (∀ g, g < k → b g < 64) → zo1 b k < 64
  | 0, _ => by simp [zo1]
  | k + 1, h => or_lt64 (zo1_lt (fun g hg => h g (by omega))) (h k (by omega))
theorem zo2_lt {b : Nat → Nat} : ∀ {k : Nat}, (∀ g, g < k → b g < 64) → zo2 b k < 64
  | 0, _ => by simp [zo2]
  | k + 1, h => or_lt64 (zo2_lt (fun g hg => h g (by omega))) (and_lt64 (zo1_lt (fun g hg => h g (by omega))))
theorem zo3_lt {b : Nat → Nat} : ∀ {k : Nat}, (∀ g, g < k → b g < 64) → zo3 b k < 64
  | 0, _ => by simp [zo3]
  | k + 1, h => or_lt64 (zo3_lt (fun g hg => h g (by omega))) (and_lt64 (zo2_lt (fun g hg => h g (by omega))))
/-- the most turns of one ringer -/
theorem bTop_eq {b : Nat → Nat} (h : ∀ g, g < 4 → b g < 64) : bTop b = if b 0 &&& b 1 &&& b 2 &&& b 3 ≠ 0 then 4 else if zo3 b 4 ≠ 0 then 3 else if zo2 b 4 ≠ 0 then 2 else if zo1 b 4 ≠ 0 then 1 else 0 := by
  have l1 := zo1_lt h
  have l2 := zo2_lt h
  have l3 := zo3_lt h
  have l4 : b 0 &&& b 1 &&& b 2 &&& b 3 < 64 := and_lt64 (and_lt64 (and_lt64 (h 0 (by decide))))
  have hz := fun i => zcnt_le (fun g => (b g).testBit i) 4
  have e4 : ∀ i, (b 0 &&& b 1 &&& b 2 &&& b 3).testBit i = decide (4 ≤ zcnt (fun g => (b g).testBit i) 4) := fun i => by
    simp only [Nat.testBit_and, zcnt]
    have key : ∀ u x y z : Bool, (u && x && y && z) = decide (4 ≤ (((0 + if u = true then 1 else 0) + if x = true then 1 else 0) + if y = true then 1 else 0) + if z = true then 1 else 0) := by decide
    exact key _ _ _ _
  have ex : ∀ {a t : Nat}, a < 64 → (∀ i, a.testBit i = decide (t ≤ zcnt (fun g => (b g).testBit i) 4)) → (a ≠ 0 ↔ ∃ i, i < 6 ∧ t ≤ zcnt (fun g => (b g).testBit i) 4) := fun {a t} ha hb => by
    rw [ne_bit ha]
    exact exists_congr fun i => and_congr_right fun _ => by rw [hb i, decide_eq_true_eq]
  have x4 := ex l4 e4
  have x3 := ex l3 (fun i => zo3_bit b i 4)
  have x2 := ex l2 (fun i => zo2_bit b i 4)
  have x1 := ex l1 (fun i => zo1_bit b i 4)
  unfold bTop
  by_cases c4 : b 0 &&& b 1 &&& b 2 &&& b 3 ≠ 0
  · rw [if_pos c4]
    obtain ⟨i, hi, hc⟩ := x4.mp c4
    exact zmx_is (fun i _ => hz i) (Or.inr ⟨i, hi, by have := hz i; omega⟩)
  · rw [if_neg c4]
    have n4 : ∀ i, i < 6 → zcnt (fun g => (b g).testBit i) 4 ≤ 3 := fun i hi => by
      rcases Nat.lt_or_ge 3 (zcnt (fun g => (b g).testBit i) 4) with w | w
      · exact absurd (x4.mpr ⟨i, hi, w⟩) c4
      · exact w
    by_cases c3 : zo3 b 4 ≠ 0
    · rw [if_pos c3]
      obtain ⟨i, hi, hc⟩ := x3.mp c3
      exact zmx_is n4 (Or.inr ⟨i, hi, by have := n4 i hi; omega⟩)
    · rw [if_neg c3]
      have n3 : ∀ i, i < 6 → zcnt (fun g => (b g).testBit i) 4 ≤ 2 := fun i hi => by
        rcases Nat.lt_or_ge 2 (zcnt (fun g => (b g).testBit i) 4) with w | w
        · exact absurd (x3.mpr ⟨i, hi, w⟩) c3
        · exact w
      by_cases c2 : zo2 b 4 ≠ 0
      · rw [if_pos c2]
        obtain ⟨i, hi, hc⟩ := x2.mp c2
        exact zmx_is n3 (Or.inr ⟨i, hi, by have := n3 i hi; omega⟩)
      · rw [if_neg c2]
        have n2 : ∀ i, i < 6 → zcnt (fun g => (b g).testBit i) 4 ≤ 1 := fun i hi => by
          rcases Nat.lt_or_ge 1 (zcnt (fun g => (b g).testBit i) 4) with w | w
          · exact absurd (x2.mpr ⟨i, hi, w⟩) c2
          · exact w
        by_cases c1 : zo1 b 4 ≠ 0
        · rw [if_pos c1]
          obtain ⟨i, hi, hc⟩ := x1.mp c1
          exact zmx_is n2 (Or.inr ⟨i, hi, by have := n2 i hi; omega⟩)
        · rw [if_neg c1]
          refine zmx_is (fun i hi => ?_) (Or.inl rfl)
          rcases Nat.lt_or_ge 0 (zcnt (fun g => (b g).testBit i) 4) with w | w
          · exact absurd (x1.mpr ⟨i, hi, w⟩) c1
          · exact w
