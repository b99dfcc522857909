/-! WHAT A STATE IS: the parish, NOW (who rings what: 0 none, else the bell and one; the tower's place; what was heard: 0 none, else the strokes and one), images, the text, the trace -/
abbrev zT : Type := (Nat → Nat → Nat) × Nat × (Nat → Nat)
abbrev zS : Type := Nat × (Nat → Int32) × zP × zT × (Nat → Bool) × (Nat → zT) × Int64
def gLen (G : zS) : Nat := G.1
def gTx (G : zS) : Nat → Int32 := G.2.1
def gP (G : zS) : zP := G.2.2.1
def gT (G : zS) : zT := G.2.2.2.1
def gK (G : zS) : Nat → Bool := G.2.2.2.2.1
def gI (G : zS) : Nat → zT := G.2.2.2.2.2.1
def gTr (G : zS) : Int64 := G.2.2.2.2.2.2
def wT (G : zS) (T : zT) : zS := (G.1, G.2.1, G.2.2.1, T, G.2.2.2.2.1, G.2.2.2.2.2.1, G.2.2.2.2.2.2)
def wTr (G : zS) (t : Int64) : zS := (G.1, G.2.1, G.2.2.1, G.2.2.2.1, G.2.2.2.2.1, G.2.2.2.2.2.1, t)
def wTx (G : zS) (n : Nat) (f : Nat → Int32) : zS := (n, f, G.2.2.1, G.2.2.2.1, G.2.2.2.2.1, G.2.2.2.2.2.1, G.2.2.2.2.2.2)
/-- how often r rings; how many turns -/
def tN (T : zT) (r : Nat) : Nat := zcnt (fun g => decide (T.1 r g ≠ 0)) 4
def tAll (T : zT) : Nat := zsum (tN T) 6
/-- who rings in an hour -/
def tIn (T : zT) (g : Nat) : Nat := zbits (fun r => decide (T.1 r g ≠ 0)) 6
/-- a rota that the document allows -/
def okT (P : zP) (T : zT) : Prop :=
  (∀ r g, r < 6 → g < 4 → T.1 r g ≠ 0 → r < pR P ∧ g < pH P ∧ T.1 r g ≤ pW P g ∧ (sBells P r g).testBit (T.1 r g - 1) = true) ∧
  (∀ r q g, r < 6 → q < 6 → g < 4 → T.1 r g ≠ 0 → T.1 r g = T.1 q g → r = q) ∧ (∀ r, r < 6 → tN T r ≤ pTi P) ∧
  (∀ r g k, r < 6 → g < 4 → k < 4 → g ≠ k → T.1 r g ≠ 0 → T.1 r k ≠ 0 → pRe P < zdist g k) ∧ T.2.1 ≤ 60 ∧ ∀ g, g < 4 → T.2.2 g ≤ 4
def okS (G : zS) : Prop := okP (gP G) ∧ okT (gP G) (gT G) ∧ (∀ i, i < 2 → gK G i = true → okT (gP G) (gI G i)) ∧ gLen G ≤ 200
/-- a choice by a proposition -/
noncomputable def zite {α : Type} (p : Prop) (a b : α) : α := @ite α p (Classical.propDecidable p) a b
theorem zite_t {α : Type} {p : Prop} {a b : α} (h : p) : zite p a b = a := @if_pos p (Classical.propDecidable p) h α a b
theorem zite_f {α : Type} {p : Prop} {a b : α} (h : ¬ p) : zite p a b = b := @if_neg p (Classical.propDecidable p) h α a b
/-! nights: a code of four sets of ringers -/
def nS (c g : Nat) : Nat := (c >>> (6 * g)) % 64
/-- the first way to seat a set's ringers from 6 - j on: a code of two bits a ringer -/
def zseat (P : zP) (g s : Nat) : Nat → Nat → Option Nat
  | 0, _ => some 0
  | j + 1, tk =>
    if s.testBit (5 - j) then
      let o := zdif (sBells P (5 - j) g) tk
      match if o.testBit 0 then zseat P g s j (tk ||| 1) else none with
      | some x => some (x + 1 * 4 ^ (5 - j))
      | none => match if o.testBit 1 then zseat P g s j (tk ||| 2) else none with
        | some x => some (x + 2 * 4 ^ (5 - j))
        | none => match if o.testBit 2 then zseat P g s j (tk ||| 4) else none with
          | some x => some (x + 3 * 4 ^ (5 - j))
          | none => none
    else zseat P g s j tk
/-- the row of a crew: none, where it can't ring -/
def zrow (P : zP) (g s : Nat) : Option Nat := if g < pH P then (if zpop s ≤ pW P g then zseat P g s 6 0 else none) else (if s = 0 then some 0 else none)
def nLaw (P : zP) (wo ti c : Nat) : Bool :=
  zall (fun g => (zrow P g (nS c g)).isSome && decide (nS c g &&& wo = 0)) 4 && zall (fun g => zall (fun k => decide (pRe P < g - k) || decide (nS c g &&& nS c k = 0)) g) 4 && zall (fun r => decide (zcnt (fun g => (nS c g).testBit r) 4 ≤ ti)) 6
def nRung (c : Nat) : Nat := zsum (fun g => zpop (nS c g)) 4
def pWalk (P : zP) (tw s : Nat) : Nat := zsum (fun r => if s.testBit r then 2 * zdist (pHo P r) tw else 0) (pR P)
def nWalk (P : zP) (tw c : Nat) : Nat := zsum (fun g => pWalk P tw (nS c g)) 4
/-- a row's code, as it stands in a price -/
def zspread (g x : Nat) : Nat := zsum (fun r => x / 4 ^ r % 4 * 4 ^ (23 - (4 * r + g))) 6
def nCode (P : zP) (c : Nat) : Nat := zsum (fun g => zspread g ((zrow P g (nS c g)).getD 0)) 4
def pAll (P : zP) : Nat := zsum (pW P) (pH P)
def nKey (P : zP) (tw c : Nat) : Nat := (pAll P - nRung c) * 2 ^ 59 + nWalk P tw c * 2 ^ 48 + nCode P c
def zmn (p : Nat → Bool) (f : Nat → Nat) : Nat → Nat
  | 0 => 2 ^ 63 - 1
  | k + 1 => if p k then min (zmn p f k) (f k) else zmn p f k
def nMost (P : zP) (wo : Nat) : Nat := zmx (fun c => if nLaw P wo (pTi P) c then nRung c else 0) (2 ^ 24)
def nBest (P : zP) (tw : Nat) : Nat := zmn (nLaw P 0 (pTi P)) (nKey P tw) (2 ^ 24)
def nOr (c : Nat) : Nat := zor (nS c) 4
def nTop (c : Nat) : Nat := zmx (fun r => zcnt (fun g => (nS c g).testBit r) 4) 6
def nTopLaw (P : zP) (c : Nat) : Bool := nLaw P 0 (pTi P) c && decide (nRung c = nMost P 0)
def nFew (P : zP) : Nat := zmn (nTopLaw P) (fun c => zpop (nOr c)) (2 ^ 24)
def nEven (P : zP) : Nat := zmn (nTopLaw P) nTop (2 ^ 24)
def nNeed (P : zP) : Nat := zbits (fun r => decide (nMost P (1 <<< r) < nMost P 0)) (pR P)
/-! the class's cells -/
def rB (B : Nat → Int32) (T : zT) : Prop := ∀ r g, r < 6 → g < 4 → B (4 * r + g) = if T.1 r g = 0 then -9 else nI (T.1 r g - 1)
def rS (S : Nat → Int32) (T : zT) : Prop := ∀ g, g < 4 → S g = if T.2.2 g = 0 then -9 else nI (T.2.2 g - 1)
def cRota (h : zH) (a : Nat) (T : zT) : Prop := ∃ S B, isRota h a (nI (tAll T)) (nI T.2.1) S B ∧ rB B T ∧ rS S T
abbrev zN : Type := Int32 × Int32 × Int32 × Int32 × Int64 × Int32 × Int32 × Int32 × (Nat → Int32) × (Nat → Int32) × (Nat → Int64) × (Nat → Int64) × Int32 × Int32 × Int64 × Int64 × (Nat → Int32)
def isNights (h : zH) (N : zN) : Prop := match N with
  | (se, ri, ti, re, ch, fe, ev, mi, sets, sin, pr, lw, am, tn, co, fo, pi) =>
    h 22 = .inr (0, [.int se, .int ri, .int ti, .int re, .long ch, .int fe, .int ev, .int mi, .ref 23, .ref 24, .ref 25, .ref 26, .int am, .int tn, .long co, .long fo, .ref 27]) ∧
    h 23 = .inl (0, 256, .inl sets) ∧ h 24 = .inl (0, 4, .inl sin) ∧ h 25 = .inl (2, 256, .inr (.inl pr)) ∧ h 26 = .inl (2, 256, .inr (.inl lw)) ∧ h 27 = .inl (0, 4, .inl pi)
/-- a set's price: none, where it can't ring -/
def nPrice (P : zP) (tw g s : Nat) : Option Nat := (zrow P g s).map (fun x => ((if g < pH P then pW P g else 0) - zpop s) * 2 ^ 59 + pWalk P tw s * 2 ^ 48 + zspread g x)
/-- what the prices of all sets are, when they are settled; what is known of the rest -/
def nSet (P : zP) (tw : Nat) (N : zN) : Prop := match N with
  | (_, ri, ti, re, _, _, _, _, sets, sin, pr, lw, _) =>
    ri = nI (pR P) ∧ ti = nI (pTi P) ∧ re = nI (pRe P) ∧
    ∀ g, g < 4 → ∃ L : List Nat, sin g = nI L.length ∧ L.length ≤ 64 ∧ (∀ i, i < L.length → sets (64 * g + i) = nI (L.getD i 0)) ∧ (∀ s, s ∈ L ↔ s < 64 ∧ (nPrice P tw g s).isSome = true) ∧
      (∀ i j, i ≤ j → j < L.length → (nPrice P tw g (L.getD i 0)).getD 0 ≤ (nPrice P tw g (L.getD j 0)).getD 0) ∧
      (∀ s, s < 64 → pr (64 * g + s) = lN ((nPrice P tw g s).getD (2 ^ 63 - 1))) ∧
      ∀ s, s < 64 → lw (64 * g + s) = lN (zmn (fun t => decide (t &&& s = t)) (fun t => (nPrice P tw g t).getD (2 ^ 63 - 1)) 64)
def nOK (P : zP) (tw : Nat) (N : zN) : Prop := match N with
  | (se, _, _, _, ch, fe, ev, mi, _) =>
    (se = 0 ∨ (se = 1 ∧ ch = lN (nBest P tw) ∧ nSet P tw N)) ∧ (fe = -1 ∨ fe = nI (nFew P)) ∧ (ev = -1 ∨ ev = nI (nEven P)) ∧ (mi = -1 ∨ mi = nI (nNeed P))
def isScript (h : zH) (ln pl fa : Int32) (tx nu to : Nat → Int32) : Prop := h 1 = .inr (3, [.int ln, .ref 2, .int pl, .int fa, .ref 3, .ref 4]) ∧ h 2 = .inl (1, 200, .inl tx) ∧ h 3 = .inl (0, 4, .inl nu) ∧ h 4 = .inl (3, 5, .inl to)
def cScript (h : zH) (G : zS) : Prop := ∃ pl fa tx nu to, isScript h (nI (gLen G)) pl fa tx nu to ∧ ∀ i, i < gLen G → tx i = gTx G i
def cImg (h : zH) (G : zS) (i a : Nat) : Prop := (∃ tu tw S B, isRota h a tu tw S B) ∧ (gK G i = true → cRota h a (gI G i))
def cAt (h : zH) (p q : Nat) (tr : Int64) : Prop := h 0 = .inr (4, [.ref 1, .ref p, .ref q, .ref 17, .ref 20, .ref 21, .ref 22, .long tr])
def cRel (h : zH) (G : zS) : Prop := ∃ p q P' N kf, ((p = 5 ∧ q = 11) ∨ (p = 11 ∧ q = 5)) ∧ cAt h p q (gTr G) ∧ cScript h G ∧ isPar h p (gP G) ∧ isPar h q P' ∧ cRota h 17 (gT G) ∧
  (∃ fi, h 20 = .inl (4, 2, .inr (.inr (.inr (.inr fi)))) ∧ fi 0 = some 28 ∧ fi 1 = some 31) ∧ h 21 = .inl (3, 2, .inl kf) ∧ (∀ i, i < 2 → kf i = if gK G i then 1 else 0) ∧ isNights h N ∧ nOK (gP G) (gT G).2.1 N ∧ cImg h G 0 28 ∧ cImg h G 1 31
theorem nI_ne9 {k : Nat} (hk : k < 2 ^ 31) : nI k ≠ -9 := fun z => nI_pos hk (by rw [z]; decide)
theorem okT.le {P : zP} {T : zT} (okp : okP P) (ok : okT P T) {r g : Nat} (hr : r < 6) (hg : g < 4) : T.1 r g ≤ 3 := by
  by_cases q : T.1 r g = 0
  · omega
  · obtain ⟨h1, h2, h3, -⟩ := ok.1 r g hr hg q
    have := (okp.2.2.2.2.2.1 g h2).2
    omega
theorem rB_ne {P : zP} {B : Nat → Int32} {T : zT} (okp : okP P) (ok : okT P T) (h : rB B T) {r g : Nat} (hr : r < 6) (hg : g < 4) : B (4 * r + g) ≠ -9 ↔ T.1 r g ≠ 0 := by
  rw [h r g hr hg]
  have := ok.le okp hr hg
  by_cases q : T.1 r g = 0
  · simp [q]
  · rw [if_neg q]
    exact ⟨fun _ => q, fun _ => nI_ne9 (by omega)⟩
theorem zcnt_congr {p q : Nat → Bool} {n : Nat} (h : ∀ i, i < n → p i = q i) : zcnt p n = zcnt q n := by
  induction n with
  | zero => rfl
  | succ n ih => rw [zcnt, zcnt, ih (fun i hi => h i (by omega)), h n (by omega)]
theorem zbits_congr {p q : Nat → Bool} {n : Nat} (h : ∀ i, i < n → p i = q i) : zbits p n = zbits q n := by
  induction n with
  | zero => rfl
  | succ n ih => rw [zbits, zbits, ih (fun i hi => h i (by omega)), h n (by omega)]
theorem zsum_congr {p q : Nat → Nat} {n : Nat} (h : ∀ i, i < n → p i = q i) : zsum p n = zsum q n := by
  induction n with
  | zero => rfl
  | succ n ih => rw [zsum, zsum, ih (fun i hi => h i (by omega)), h n (by omega)]
theorem zor_congr {p q : Nat → Nat} {n : Nat} (h : ∀ i, i < n → p i = q i) : zor p n = zor q n := by
  induction n with
  | zero => rfl
  | succ n ih => rw [zor, zor, ih (fun i hi => h i (by omega)), h n (by omega)]
theorem rT_eq {P : zP} {B : Nat → Int32} {T : zT} (okp : okP P) (ok : okT P T) (h : rB B T) {r : Nat} (hr : r < 6) : rT B r 4 = tN T r :=
  zcnt_congr (fun g hg => decide_eq_decide.mpr (rB_ne okp ok h hr hg))
theorem rIn_eq {P : zP} {B : Nat → Int32} {T : zT} (okp : okP P) (ok : okT P T) (h : rB B T) {g : Nat} (hg : g < 4) : rIn B g 6 = tIn T g :=
  zbits_congr (fun r hr => decide_eq_decide.mpr (rB_ne okp ok h hr hg))
def tWalk (P : zP) (T : zT) (w : Nat) : Nat := zsum (fun r => tN T r * 2 * zdist (pHo P r) w) (pR P)
theorem rWalk_eq {P : zP} {B : Nat → Int32} {T : zT} (okp : okP P) (ok : okT P T) (h : rB B T) (w : Nat) : rWalk P B w (pR P) = tWalk P T w :=
  zsum_congr (fun r hr => by
    have := okp.2.1
    simp only [rT_eq okp ok h (show r < 6 by omega)])
def tOr (T : zT) : Nat := zor (tIn T) 4
theorem tIn_lt (T : zT) (g : Nat) : tIn T g < 64 := zbits_lt _ _
theorem tOr_lt (T : zT) : tOr T < 64 := zor_lt (m := 6) 4 (fun j => tIn_lt T j)
theorem tN_le (T : zT) (r : Nat) : tN T r ≤ 4 := zcnt_le _ _
theorem tAll_le (T : zT) : tAll T ≤ 24 := zsum_le (m := 4) (fun i _ => tN_le T i)
/-- 0 .. N, or beyond -/
theorem z_swi (x : Int32) (N : Nat) (hN : N < 2 ^ 31) : (∃ k, k ≤ N ∧ x = nI k) ∨ (x.toInt < 0 ∨ (N : Int) < x.toInt) := by
  by_cases h1 : x < 0
  · exact Or.inr (Or.inl (by simpa using Int32.lt_iff_toInt_lt.mp h1))
  · obtain ⟨j, hj, rfl⟩ := nI_of h1
    rcases Nat.lt_or_ge N j with q | q
    · exact Or.inr (Or.inr (by rw [nI_toInt hj]; omega))
    · exact Or.inl ⟨j, q, rfl⟩
