/-! THE TEXT: what it tells, as a function of its bytes -/
def pRun (p : Nat → Bool) (len : Nat) : Nat → Nat → Nat
  | 0, i => i
  | j + 1, i => if i < len ∧ p i = true then pRun p len j (i + 1) else i
theorem pRun_ge (p : Nat → Bool) (len : Nat) : ∀ j i, i ≤ pRun p len j i
  | 0, i => Nat.le_refl _
  | j + 1, i => by
    simp only [pRun]
    split
    · exact Nat.le_trans (Nat.le_succ i) (pRun_ge p len j (i + 1))
    · exact Nat.le_refl _
theorem pRun_le (p : Nat → Bool) (len : Nat) : ∀ j i, i ≤ len → pRun p len j i ≤ len
  | 0, i, h => h
  | j + 1, i, h => by
    simp only [pRun]
    split
    · next q => exact pRun_le p len j (i + 1) q.1
    · exact h
theorem pRun_stop (p : Nat → Bool) (len : Nat) : ∀ j i, len ≤ i + j → ¬ (pRun p len j i < len ∧ p (pRun p len j i) = true)
  | 0, i, h => by simp only [pRun]; omega
  | j + 1, i, h => by
    simp only [pRun]
    split
    · exact pRun_stop p len j (i + 1) (by omega)
    · next q => exact q
theorem pRun_all (p : Nat → Bool) (len : Nat) : ∀ j i k, i ≤ k → k < pRun p len j i → k < len ∧ p k = true
  | 0, i, k, h1, h2 => by simp only [pRun] at h2; omega
  | j + 1, i, k, h1, h2 => by
    simp only [pRun] at h2
    split at h2
    · next q =>
      rcases Nat.eq_or_lt_of_le h1 with e | e
      · rw [← e]; exact q
      · exact pRun_all p len j (i + 1) k e h2
    · omega
def pBl (f : Nat → Int32) (i : Nat) : Bool := decide (f i = 32)
def pAz (f : Nat → Int32) (i : Nat) : Bool := decide (97 ≤ f i) && decide (f i ≤ 122)
def p09 (f : Nat → Int32) (i : Nat) : Bool := decide (48 ≤ f i) && decide (f i ≤ 57)
def pSk (f : Nat → Int32) (len i : Nat) : Nat := pRun (pBl f) len 200 i
def pLt (f : Nat → Int32) (len i : Nat) : Nat := pRun (pAz f) len 200 i
def pDg (f : Nat → Int32) (len i : Nat) : Nat := pRun (p09 f) len 200 i
/-- the number from i on, up to j; 100: too large -/
def pVal (f : Nat → Int32) (i : Nat) : Nat → Nat
  | 0 => 0
  | j + 1 => min (10 * pVal f i j + ((f (i + j)).toNatClampNeg - 48)) 100
def pKind (f : Nat → Int32) (len i : Nat) : Option Nat := zfst (fun k => decide (z_len.getD k 0 = pLt f len i - i) && zall (fun t => decide (f (i + t) = (z_byt.getD k []).getD t 0)) (z_len.getD k 0)) 5
def pMay (P : zP) (to : Nat → Bool) (k : Nat) : Bool := if k = 0 then decide (pH P < 4) else if k = 1 then decide (pR P < 6) else !to k
def pNum (f : Nat → Int32) (len lo hi i : Nat) : Nat ⊕ (Nat × Nat) :=
  if len ≤ pSk f len i then .inl len
  else if pDg f len (pSk f len i) = pSk f len i ∨ (1 < pDg f len (pSk f len i) - pSk f len i ∧ f (pSk f len i) = 48) ∨ pVal f (pSk f len i) (pDg f len (pSk f len i) - pSk f len i) < lo ∨ hi < pVal f (pSk f len i) (pDg f len (pSk f len i) - pSk f len i) then .inl (pSk f len i)
  else .inr (pVal f (pSk f len i) (pDg f len (pSk f len i) - pSk f len i), pDg f len (pSk f len i))
def pNums (f : Nat → Int32) (len : Nat) : List (Nat × Nat) → Nat → Nat ⊕ (List Nat × Nat)
  | [], i => .inr ([], i)
  | (lo, hi) :: t, i => match pNum f len lo hi i with
    | .inl x => .inl x
    | .inr (v, j) => match pNums f len t j with
      | .inl x => .inl x
      | .inr (vs, e) => .inr (v :: vs, e)
def pBounds (k : Nat) : List (Nat × Nat) := if k = 0 then [(1, 3)] else if k = 1 then [(0, 60), (0, 7), (0, 15), (0, 9)] else if k = 2 then [(0, 60)] else if k = 3 then [(1, 4)] else [(0, 3)]
def pEnd (f : Nat → Int32) (len i : Nat) : Nat ⊕ Nat := if len ≤ pSk f len i then .inl len else if f (pSk f len i) = 59 then .inr (pSk f len i + 1) else .inl (pSk f len i)
def pTell (P : zP) (k : Nat) (vs : List Nat) : zP :=
  if k = 0 then pAddH P (vs.getD 0 0) else if k = 1 then pAddR P (vs.getD 0 0) (vs.getD 1 0) (vs.getD 2 0) (vs.getD 3 0)
  else if k = 2 then (pH P, pR P, vs.getD 0 0, pTi P, pRe P, P.2.2.2.2.2) else if k = 3 then (pH P, pR P, pTw P, vs.getD 0 0, pRe P, P.2.2.2.2.2) else (pH P, pR P, pTw P, pTi P, vs.getD 0 0, P.2.2.2.2.2)
def pItem (f : Nat → Int32) (len : Nat) (P : zP) (to : Nat → Bool) (i : Nat) : Nat ⊕ (zP × (Nat → Bool) × Nat) :=
  match pKind f len i with
  | none => .inl i
  | some k => if pMay P to k then (match pNums f len (pBounds k) (pLt f len i) with
    | .inl x => .inl x
    | .inr (vs, j) => match pEnd f len j with
      | .inl x => .inl x
      | .inr e => .inr (pTell P k vs, bupd to k, e)) else .inl i
def pItems (f : Nat → Int32) (len : Nat) : Nat → zP → (Nat → Bool) → Nat → Nat → Nat ⊕ (Nat × zP)
  | 0, P, _, _, m => .inr (m, P)
  | j + 1, P, to, i, m => if i < len then (match pItem f len P to i with
    | .inl x => .inl x
    | .inr (P', to', e) => pItems f len j P' to' (pSk f len e) (m + 1)) else .inr (m, P)
def zP0 : zP := (0, 0, 0, 1, 0, fun _ => 0, fun _ => 0, fun _ => 0, fun _ => 0, fun _ => 0)
def pParse (f : Nat → Int32) (len : Nat) : Nat ⊕ (Nat × zP) := pItems f len 200 zP0 (fun _ => false) (pSk f len 0) 0
/-- places stay within -/
theorem pSk_le {f : Nat → Int32} {len i : Nat} (h : i ≤ len) : pSk f len i ≤ len := pRun_le _ _ _ _ h
theorem pLt_le {f : Nat → Int32} {len i : Nat} (h : i ≤ len) : pLt f len i ≤ len := pRun_le _ _ _ _ h
theorem pDg_le {f : Nat → Int32} {len i : Nat} (h : i ≤ len) : pDg f len i ≤ len := pRun_le _ _ _ _ h
theorem pNum_le {f : Nat → Int32} {len lo hi i : Nat} (h : i ≤ len) : Sum.elim (fun x => x ≤ len) (fun q => lo ≤ q.1 ∧ q.1 ≤ hi ∧ i ≤ q.2 ∧ q.2 ≤ len) (pNum f len lo hi i) := by
  have h1 := pSk_le (f := f) h
  have h2 := pDg_le (f := f) h1
  have h3 : i ≤ pSk f len i := pRun_ge _ _ _ _
  have h4 : pSk f len i ≤ pDg f len (pSk f len i) := pRun_ge _ _ _ _
  unfold pNum
  split
  · exact Nat.le_refl _
  · split
    · exact h1
    · next q => exact ⟨by omega, by omega, by omega, h2⟩
theorem pNums_le {f : Nat → Int32} {len : Nat} : ∀ (bs : List (Nat × Nat)) {i : Nat}, i ≤ len → Sum.elim (fun x => x ≤ len) (fun q => q.1.length = bs.length ∧ (∀ t, t < bs.length → (bs.getD t (0, 0)).1 ≤ q.1.getD t 0 ∧ q.1.getD t 0 ≤ (bs.getD t (0, 0)).2) ∧ i ≤ q.2 ∧ q.2 ≤ len) (pNums f len bs i)
  | [], i, h => ⟨rfl, fun t ht => absurd ht (Nat.not_lt_zero _), Nat.le_refl _, h⟩
  | (lo, hi) :: t, i, h => by
    have h1 := pNum_le (f := f) (lo := lo) (hi := hi) h
    simp only [pNums]
    cases e : pNum f len lo hi i with
    | inl x => rw [e] at h1; exact h1
    | inr q =>
      obtain ⟨v, j⟩ := q
      rw [e] at h1
      obtain ⟨a1, a2, a3, a4⟩ := h1
      have h2 := pNums_le t a4 (f := f)
      simp only
      cases e2 : pNums f len t j with
      | inl x => rw [e2] at h2; exact h2
      | inr q2 =>
        obtain ⟨vs, k⟩ := q2
        rw [e2] at h2
        obtain ⟨b1, b2, b3, b4⟩ := h2
        refine ⟨by simp [b1], fun s hs => ?_, by omega, b4⟩
        cases s with
        | zero => exact ⟨a1, a2⟩
        | succ s => simpa using b2 s (by simpa using hs)
theorem pEnd_le {f : Nat → Int32} {len i : Nat} (h : i ≤ len) : Sum.elim (fun x => x ≤ len) (fun j => i < j ∧ j ≤ len) (pEnd f len i) := by
  have h1 := pSk_le (f := f) h
  have h3 : i ≤ pSk f len i := pRun_ge _ _ _ _
  unfold pEnd
  split
  · exact Nat.le_refl _
  · split
    · exact ⟨by omega, by omega⟩
    · exact h1
theorem okP_tell {P : zP} {to : Nat → Bool} {k : Nat} {vs : List Nat} (ok : okP P) (hk : k < 5) (hm : pMay P to k = true) (hb : ∀ t, t < (pBounds k).length → ((pBounds k).getD t (0, 0)).1 ≤ vs.getD t 0 ∧ vs.getD t 0 ≤ ((pBounds k).getD t (0, 0)).2) : okP (pTell P k vs) := by
  obtain ⟨o1, o2, o3, o4, o5, o6, o7⟩ := ok
  rcases (show k = 0 ∨ k = 1 ∨ k = 2 ∨ k = 3 ∨ k = 4 by omega) with rfl | rfl | rfl | rfl | rfl
  · have hm : pH P < 4 := by simpa [pMay] using hm
    have b0 := hb 0 (by decide)
    have b0 : 1 ≤ vs.getD 0 0 ∧ vs.getD 0 0 ≤ 3 := b0
    refine ⟨hm, o2, o3, o4, o5, fun i hi => ?_, o7⟩
    show 1 ≤ zupd (pW P) (pH P) (vs.getD 0 0) i ∧ zupd (pW P) (pH P) (vs.getD 0 0) i ≤ 3
    have hi : i < pH P + 1 := hi
    by_cases q : i = pH P
    · simp only [zupd, if_pos q]; exact b0
    · simp only [zupd, if_neg q]; exact o6 i (by omega)
  · have hm : pR P < 6 := by simpa [pMay] using hm
    have b0 : 0 ≤ vs.getD 0 0 ∧ vs.getD 0 0 ≤ 60 := hb 0 (by decide)
    have b1 : 0 ≤ vs.getD 1 0 ∧ vs.getD 1 0 ≤ 7 := hb 1 (by decide)
    have b2 : 0 ≤ vs.getD 2 0 ∧ vs.getD 2 0 ≤ 15 := hb 2 (by decide)
    have b3 : 0 ≤ vs.getD 3 0 ∧ vs.getD 3 0 ≤ 9 := hb 3 (by decide)
    refine ⟨o1, hm, o3, o4, o5, o6, fun i hi => ?_⟩
    show zupd (pHo P) (pR P) (vs.getD 0 0) i ≤ 60 ∧ zupd (pBe P) (pR P) (vs.getD 1 0) i ≤ 7 ∧ zupd (pBu P) (pR P) (vs.getD 2 0) i ≤ 15 ∧ zupd (pIl P) (pR P) (vs.getD 3 0) i ≤ 9
    have hi : i < pR P + 1 := hi
    by_cases q : i = pR P
    · simp only [zupd, if_pos q]; exact ⟨b0.2, b1.2, b2.2, b3.2⟩
    · simp only [zupd, if_neg q]; exact o7 i (by omega)
  · have b0 : 0 ≤ vs.getD 0 0 ∧ vs.getD 0 0 ≤ 60 := hb 0 (by decide)
    exact ⟨o1, o2, b0.2, o4, o5, o6, o7⟩
  · have b0 : 1 ≤ vs.getD 0 0 ∧ vs.getD 0 0 ≤ 4 := hb 0 (by decide)
    exact ⟨o1, o2, o3, b0, o5, o6, o7⟩
  · have b0 : 0 ≤ vs.getD 0 0 ∧ vs.getD 0 0 ≤ 3 := hb 0 (by decide)
    exact ⟨o1, o2, o3, o4, b0.2, o6, o7⟩
theorem pKind_lt {f : Nat → Int32} {len i k : Nat} (h : pKind f len i = some k) : k < 5 := by
  unfold pKind at h
  have key : ∀ (p : Nat → Bool) (n : Nat), zfst p n = some k → k < n := by
    intro p n
    induction n with
    | zero => intro h; cases h
    | succ n ih =>
      intro h
      simp only [zfst] at h
      cases e : zfst p n with
      | some i => rw [e] at h ih; cases h; have := ih rfl; omega
      | none =>
        rw [e] at h
        simp only at h
        split at h
        · cases h; omega
        · cases h
  exact key _ _ h
theorem pItem_ok {f : Nat → Int32} {len i : Nat} {P : zP} {to : Nat → Bool} (ok : okP P) (h : i ≤ len) : Sum.elim (fun x => x ≤ len) (fun q => okP q.1 ∧ i < q.2.2 ∧ q.2.2 ≤ len) (pItem f len P to i) := by
  unfold pItem
  cases ek : pKind f len i with
  | none => exact h
  | some k =>
    simp only
    have hk := pKind_lt ek
    split
    · next hm =>
      have h1 := pLt_le (f := f) h
      have h2 := pNums_le (f := f) (pBounds k) h1
      have h0 : i ≤ pLt f len i := pRun_ge _ _ _ _
      cases en : pNums f len (pBounds k) (pLt f len i) with
      | inl x => rw [en] at h2; exact h2
      | inr q =>
        obtain ⟨vs, j⟩ := q
        rw [en] at h2
        obtain ⟨b1, b2, b3, b4⟩ := h2
        have h3 := pEnd_le (f := f) b4
        simp only
        cases ee : pEnd f len j with
        | inl x => rw [ee] at h3; exact h3
        | inr e =>
          rw [ee] at h3
          exact ⟨okP_tell ok hk hm b2, Nat.lt_of_le_of_lt (Nat.le_trans h0 b3) h3.1, h3.2⟩
    · exact h
theorem okP_0 : okP zP0 := ⟨by decide, by decide, by decide, by decide, by decide, fun i hi => absurd hi (Nat.not_lt_zero _), fun i hi => absurd hi (Nat.not_lt_zero _)⟩
theorem pItems_ok {f : Nat → Int32} {len : Nat} : ∀ (j : Nat) {P : zP} {to : Nat → Bool} {i m : Nat}, okP P → i ≤ len → Sum.elim (fun x => x ≤ len) (fun q => okP q.2 ∧ q.1 ≤ m + j) (pItems f len j P to i m)
  | 0, P, to, i, m, ok, h => ⟨ok, by omega⟩
  | j + 1, P, to, i, m, ok, h => by
    simp only [pItems]
    split
    · have h1 := pItem_ok (f := f) (to := to) ok h
      cases e : pItem f len P to i with
      | inl x => rw [e] at h1; exact h1
      | inr q =>
        obtain ⟨P', to', e'⟩ := q
        rw [e] at h1
        have h2 := pItems_ok j (f := f) (len := len) (to := to') (i := pSk f len e') (m := m + 1) h1.1 (pSk_le h1.2.2)
        simp only
        cases e2 : pItems f len j P' to' (pSk f len e') (m + 1) with
        | inl x => rw [e2] at h2; exact h2
        | inr q2 =>
          obtain ⟨k, P2⟩ := q2
          rw [e2] at h2
          have h9 : k ≤ m + 1 + j := h2.2
          exact ⟨h2.1, show k ≤ m + (j + 1) by omega⟩
    · exact ⟨ok, by omega⟩
