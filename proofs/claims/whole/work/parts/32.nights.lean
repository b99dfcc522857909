/-! NIGHTS (3): bounds of prices; the search, as numbers -/
theorem zpop_0 : zpop 0 = 0 := by decide
theorem pWalk_le {P : zP} {tw s : Nat} (ok : okP P) (htw : tw ≤ 60) : pWalk P tw s ≤ 120 * zpop s := by
  have key : ∀ n, n ≤ pR P → zsum (fun r => if s.testBit r then 2 * zdist (pHo P r) tw else 0) n ≤ 120 * zcnt (fun k => s.testBit k) n := by
    intro n
    induction n with
    | zero => intro _; exact Nat.le_refl _
    | succ n ih =>
      intro hn
      have e := ih (by omega)
      have hd := (ok.2.2.2.2.2.2 n (by omega)).1
      have hz : zdist (pHo P n) tw ≤ 60 := by unfold zdist; split <;> omega
      simp only [zsum, zcnt]
      split <;> omega
  have h1 := key (pR P) (Nat.le_refl _)
  have h2 := zcnt_mono (p := fun k => s.testBit k) ok.2.1
  unfold pWalk zpop
  omega
theorem pWalk_0 (P : zP) (tw : Nat) : pWalk P tw 0 = 0 := by
  unfold pWalk
  have : ∀ n, zsum (fun r => if (0 : Nat).testBit r then 2 * zdist (pHo P r) tw else 0) n = 0 := by
    intro n
    induction n with
    | zero => rfl
    | succ n ih => rw [zsum, ih]; simp
  exact this _
theorem nPrice_le {P : zP} {tw g s x : Nat} (ok : okP P) (htw : tw ≤ 60) (h : nPrice P tw g s = some x) : x ≤ 13 * 2 ^ 57 := by
  unfold nPrice at h
  cases e : zrow P g s with
  | none => rw [e] at h; cases h
  | some y =>
    rw [e] at h
    simp only [Option.map_some, Option.some.injEq] at h
    have h1 := zspread_lt g y
    have h2 := pWalk_le (s := s) ok htw
    unfold zrow at e
    by_cases hg : g < pH P
    · rw [if_pos hg] at e
      have hw := (ok.2.2.2.2.2.1 g hg).2
      by_cases hp : zpop s ≤ pW P g
      · rw [if_pos hg] at h
        omega
      · rw [if_neg hp] at e; cases e
    · rw [if_neg hg] at e
      by_cases hs : s = 0
      · rw [if_neg hg, hs, pWalk_0] at h
        omega
      · rw [if_neg hs] at e; cases e
theorem nPrice_0 {P : zP} (tw g : Nat) : (nPrice P tw g 0).isSome = true := by
  unfold nPrice zrow
  rw [zpop_0, if_pos (Nat.zero_le _), zseat_0 P g 0 6 0 (fun i _ => Nat.zero_testBit i)]
  split <;> rfl
theorem nPr_some {P : zP} {tw g s : Nat} (ok : okP P) (htw : tw ≤ 60) (h : (nPrice P tw g s).isSome = true) : nPr P tw g s ≤ 13 * 2 ^ 57 := by
  unfold nPr
  cases e : nPrice P tw g s with
  | none => rw [e] at h; cases h
  | some x => exact nPrice_le ok htw e
theorem nPr_lt {P : zP} {tw g s : Nat} (ok : okP P) (htw : tw ≤ 60) : nPr P tw g s < 2 ^ 63 := by
  cases e : (nPrice P tw g s).isSome with
  | true => have := nPr_some ok htw e; omega
  | false =>
    unfold nPr
    rw [Option.isSome_eq_false_iff, Option.isNone_iff_eq_none] at e
    rw [e]
    show 2 ^ 63 - 1 < 2 ^ 63
    omega
theorem nLw_le {P : zP} {tw g s : Nat} (ok : okP P) (htw : tw ≤ 60) : nLw P tw g s ≤ 13 * 2 ^ 57 :=
  Nat.le_trans (zmn_le (i := 0) (by decide) (decide_eq_true (Nat.zero_and s))) (nPr_some ok htw (nPrice_0 tw g))
theorem nLw_at {P : zP} {tw g s : Nat} (ok : okP P) (htw : tw ≤ 60) : ∃ t, t < 64 ∧ t &&& s = t ∧ (nPrice P tw g t).isSome = true ∧ nPr P tw g t = nLw P tw g s := by
  have h := nLw_le (g := g) (s := s) ok htw
  rcases zmn_at (p := fun t => decide (t &&& s = t)) (f := nPr P tw g) 64 with e | ⟨t, h1, h2, h3⟩
  · have h : zmn (fun t => decide (t &&& s = t)) (nPr P tw g) 64 ≤ 13 * 2 ^ 57 := h
    omega
  · refine ⟨t, h1, of_decide_eq_true h2, ?_, h3⟩
    cases e : (nPrice P tw g t).isSome with
    | true => rfl
    | false =>
      rw [Option.isSome_eq_false_iff, Option.isNone_iff_eq_none] at e
      have h : zmn (fun t => decide (t &&& s = t)) (nPr P tw g) 64 ≤ 13 * 2 ^ 57 := h
      unfold nPr at h3
      rw [e] at h3
      have h3 : 2 ^ 63 - 1 = zmn (fun t => decide (t &&& s = t)) (nPr P tw g) 64 := h3
      omega
def nMask (m : Nat → Nat) (co : Int64) : Prop := (∀ a, a < 2 ^ 63 → lN a &&& co = lN (m a)) ∧ (∀ a, m a ≤ a) ∧ ∀ x y, x ≤ y → m x ≤ m y
theorem nMask_all : nMask (fun a => a) (-1) := ⟨fun a _ => lL_m1 _, fun a => Nat.le_refl _, fun _ _ h => h⟩
theorem nMask_short : nMask zSh 8646911284551352320 := ⟨fun _ h => lL_short h, zSh_le, fun _ _ h => zSh_mono h⟩
section
variable {P : zP} {tw am tn k g paid F F' F2 : Nat} {a b : Nat → Nat} {m : Nat → Nat} {S : Nat → Prop} {s : Nat}
def nAgr (k : Nat) (a b : Nat → Nat) : Prop := ∀ g, g < k → b g = a g
def nRest (P : zP) (tw am tn k : Nat) (b : Nat → Nat) : Prop := ∀ g, k ≤ g → g < 4 → nGood P tw am tn b g
def nMinI (m : Nat → Nat) (P : zP) (tw am tn k paid : Nat) (a : Nat → Nat) (S : Nat → Prop) (F F' : Nat) : Prop :=
  F' ≤ F ∧ (∀ b, nAgr k a b → nRest P tw am tn k b → S (b k) → F' ≤ paid + nCost m P tw b k) ∧ (F' = F ∨ ∃ b, nAgr k a b ∧ nRest P tw am tn k b ∧ F' = paid + nCost m P tw b k)
def nMin (m : Nat → Nat) (P : zP) (tw am tn k paid : Nat) (a : Nat → Nat) (F F' : Nat) : Prop := nMinI m P tw am tn k paid a (fun _ => True) F F'
theorem nCost_ge (hm : ∀ x y, x ≤ y → m x ≤ m y) (hk : k < 4) (ha : nAgr k a b) (hb : nRest P tw am tn k b) : nLat m P tw am tn a k + m (nLw P tw k (nOpn am tn (pRe P) a k k)) ≤ nCost m P tw b k := by
  have h1 := nLat_le (am := am) (tn := tn) (a := a) hm hk (fun j hj => (ha j hj).symm) (fun g h1 h2 => hb g (by omega) h2)
  have h2 := hm _ _ (nGood_le (a := a) (f := k) (hb k (Nat.le_refl _) hk) (Nat.le_refl _) (fun j hj => (ha j hj).symm))
  rw [nCost_step hk]
  omega
theorem nMin_prune (hm : ∀ x y, x ≤ y → m x ≤ m y) (hk : k < 4) (h : F ≤ paid + nLat m P tw am tn a k + m (nLw P tw k (nOpn am tn (pRe P) a k k))) : nMin m P tw am tn k paid a F F :=
  ⟨Nat.le_refl _, fun b ha hb _ => by have := nCost_ge hm hk ha hb; omega, Or.inl rfl⟩
theorem nMin_last (hm : ∀ x y, x ≤ y → m x ≤ m y) (ok : okP P) (htw : tw ≤ 60) (h : paid + m (nLw P tw 3 (nOpn am tn (pRe P) a 3 3)) < F) : nMin m P tw am tn 3 paid a F (paid + m (nLw P tw 3 (nOpn am tn (pRe P) a 3 3))) := by
  refine ⟨Nat.le_of_lt h, fun b ha hb _ => ?_, Or.inr ?_⟩
  · have := nCost_ge hm (by decide) ha hb
    have e : nLat m P tw am tn a 3 = 0 := rfl
    omega
  · obtain ⟨t, h1, h2, h3, h4⟩ := nLw_at (g := 3) (s := nOpn am tn (pRe P) a 3 3) ok htw
    refine ⟨zupd a 3 t, fun g hg => by simp only [zupd]; rw [if_neg (by omega)], fun g hg hg4 => ?_, ?_⟩
    · rw [show g = 3 by omega]
      have e : zupd a 3 t 3 = t := by simp [zupd]
      refine ⟨by rw [e]; exact h1, by rw [e]; exact h3, ?_⟩
      rw [e, nOpn_congr (b := a) (fun j hj => by simp only [zupd]; rw [if_neg (by omega)])]
      exact zdif_0.mpr (zand_sub h2)
    · rw [nCost_step (by decide), nCost_4]
      have e : zupd a 3 t 3 = t := by simp [zupd]
      rw [e, h4]
      rfl
theorem nMinI_skip (hk : k < 4) (h : nMinI m P tw am tn k paid a S F F') (hs : zdif s (nOpn am tn (pRe P) a k k) ≠ 0) : nMinI m P tw am tn k paid a (fun t => S t ∨ t = s) F F' :=
  ⟨h.1, fun b ha hb q => by
    rcases q with q | q
    · exact h.2.1 b ha hb q
    · have g3 := (hb k (Nat.le_refl _) hk).2.2
      rw [q, nOpn_congr (b := a) ha] at g3
      exact absurd g3 hs, h.2.2⟩
theorem nMinI_step (hk : k < 3) (h : nMinI m P tw am tn k paid a S F F') (hs1 : s < 64) (hs2 : (nPrice P tw k s).isSome = true) (hs : zdif s (nOpn am tn (pRe P) a k k) = 0) (h2 : nMin m P tw am tn (k + 1) (paid + m (nPr P tw k s)) (zupd a k s) F' F2) : nMinI m P tw am tn k paid a (fun t => S t ∨ t = s) F F2 := by
  have es : zupd a k s k = s := by simp [zupd]
  have ea : ∀ g, g < k → zupd a k s g = a g := fun g hg => by simp only [zupd]; rw [if_neg (by omega)]
  refine ⟨Nat.le_trans h2.1 h.1, fun b ha hb q => ?_, ?_⟩
  · rcases q with q | q
    · exact Nat.le_trans h2.1 (h.2.1 b ha hb q)
    · have := h2.2.1 b (fun g hg => by
        rcases Nat.lt_or_ge g k with z | z
        · rw [ea g z]; exact ha g z
        · rw [show g = k by omega, es]; exact q) (fun g h1 h2 => hb g (by omega) h2) trivial
      rw [nCost_step (show k < 4 by omega), q]
      omega
  · rcases h2.2.2 with e | ⟨b, ha, hb, e⟩
    · rw [e]; exact h.2.2
    · have hbk : b k = s := by rw [ha k (by omega), es]
      have hba : nAgr k a b := fun g hg => by rw [ha g (by omega), ea g hg]
      refine Or.inr ⟨b, hba, fun g h1 h2 => ?_, ?_⟩
      · rcases Nat.eq_or_lt_of_le h1 with z | z
        · rw [← z]
          refine ⟨by rw [hbk]; exact hs1, by rw [hbk]; exact hs2, ?_⟩
          rw [hbk, nOpn_congr (b := a) hba]
          exact hs
        · exact hb g z h2
      · rw [nCost_step (show k < 4 by omega), hbk, e]
        omega
theorem nMinI_all (hk : k < 4) (h : nMinI m P tw am tn k paid a S F F') (hS : ∀ b, nAgr k a b → nRest P tw am tn k b → ¬ S (b k) → F' ≤ paid + nCost m P tw b k) : nMin m P tw am tn k paid a F F' :=
  ⟨h.1, fun b ha hb _ => by
    by_cases q : S (b k)
    · exact h.2.1 b ha hb q
    · exact hS b ha hb q, h.2.2⟩
end
