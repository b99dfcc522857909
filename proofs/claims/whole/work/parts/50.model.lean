/-! THE MODEL (3): isLawful, put, take, exchange -/
def bI (b : Bool) : Int32 := if b then 1 else 0
theorem bI_0 {b : Bool} : bI b = 0 ↔ b = false := by cases b <;> decide
theorem bI_n {b : Bool} : ¬ bI b = 0 ↔ b = true := by cases b <;> decide
theorem bI_nar {b : Bool} : narrow FieldType.boolean (Value.int (bI b)) = Value.int (bI b) := by cases b <;> rfl
def lB (f : Nat → Int32) (y : Int32) (bits g : Nat) : Nat → Bool := zall (fun b => !decide (f (3 * g + b) = y) || bits.testBit b)
def lM (f : Nat → Int32) (y : Int32) (g : Nat) : Nat → Nat := zcnt (fun b => decide (f (3 * g + b) = y))
def lL (f : Nat → Int32) (y : Int32) : Nat → Option Nat
  | 0 => none
  | g + 1 => if lM f y g 3 = 0 then lL f y g else some g
def lG (re g : Nat) : Option Nat → Bool
  | none => true
  | some k => decide (re < g - k)
def lI (f : Nat → Int32) (y : Int32) (bits bu re : Nat) : Nat → Bool
  | 0 => true
  | g + 1 => (lI f y bits bu re g && lB f y bits g 3) && (decide (lM f y g 3 = 0) || (decide (lM f y g 3 = 1) && !bu.testBit g && lG re g (lL f y g)))
def lC (f : Nat → Int32) (y : Int32) : Nat → Nat := zcnt (fun g => decide (lM f y g 3 ≠ 0))
theorem zall_succ (p : Nat → Bool) (k : Nat) : zall p (k + 1) = (zall p k && p k) := rfl
theorem lLa_lt {f : Nat → Int32} {y : Int32} {g k : Nat} (h : lL f y g = some k) : k < g := by
  induction g with
  | zero => cases h
  | succ g ih =>
    simp only [lL] at h
    split at h
    · have := ih h; omega
    · cases h; omega
theorem lM_le (f : Nat → Int32) (y : Int32) (g k : Nat) : lM f y g k ≤ k := zcnt_le _ _
theorem lL_spec (f : Nat → Int32) (y : Int32) (g : Nat) : match lL f y g with
    | none => ∀ k, k < g → lM f y k 3 = 0
    | some m => m < g ∧ lM f y m 3 ≠ 0 ∧ ∀ k, k < g → lM f y k 3 ≠ 0 → k ≤ m := by
  induction g with
  | zero => intro k hk; omega
  | succ g ih =>
    simp only [lL]
    by_cases q : lM f y g 3 = 0
    · rw [if_pos q]
      cases e : lL f y g with
      | none =>
        rw [e] at ih
        intro k hk
        by_cases z : k = g
        · rw [z]; exact q
        · exact ih k (by omega)
      | some m =>
        rw [e] at ih
        obtain ⟨a, b, c⟩ := ih
        refine ⟨by omega, b, fun k hk hz => ?_⟩
        by_cases z : k = g
        · rw [z] at hz; exact absurd q hz
        · exact c k (by omega) hz
    · rw [if_neg q]
      exact ⟨by omega, q, fun k hk _ => by omega⟩
theorem lI_iff {f : Nat → Int32} {y : Int32} {bits bu re n : Nat} : lI f y bits bu re n = true ↔ (∀ g, g < n → ∀ b, b < 3 → f (3 * g + b) = y → bits.testBit b = true) ∧ (∀ g, g < n → lM f y g 3 ≠ 0 → lM f y g 3 = 1 ∧ bu.testBit g = false) ∧ ∀ g k, k < g → g < n → lM f y g 3 ≠ 0 → lM f y k 3 ≠ 0 → re < g - k := by
  induction n with
  | zero => exact ⟨fun _ => ⟨fun g hg => by omega, fun g hg => by omega, fun g k _ hg => by omega⟩, fun _ => rfl⟩
  | succ n ih =>
    have hs := lL_spec f y n
    have hb : lB f y bits n 3 = true ↔ ∀ b, b < 3 → f (3 * n + b) = y → bits.testBit b = true := by
      rw [lB, zall_iff]
      exact forall_congr' fun b => forall_congr' fun _ => by simp [Classical.or_iff_not_imp_left]
    simp only [lI, Bool.and_eq_true, Bool.or_eq_true, decide_eq_true_eq, Bool.not_eq_true', ih, hb]
    constructor
    · rintro ⟨⟨⟨h1, h2, h3⟩, h4⟩, h5⟩
      refine ⟨fun g hg => ?_, fun g hg hm => ?_, fun g k hk hg hm1 hm2 => ?_⟩
      · by_cases z : g = n
        · rw [z]; exact h4
        · exact h1 g (by omega)
      · by_cases z : g = n
        · rw [z] at hm ⊢
          rcases h5 with h5 | h5
          · exact absurd h5 hm
          · exact h5.1
        · exact h2 g (by omega) hm
      · by_cases z : g = n
        · subst z
          rcases h5 with h5 | h5
          · exact absurd h5 hm1
          · cases e : lL f y g with
            | none => rw [e] at hs; exact absurd (hs k hk) hm2
            | some m =>
              rw [e] at hs h5
              have h6 : re < g - m := of_decide_eq_true h5.2
              have := hs.2.2 k hk hm2
              omega
        · exact h3 g k hk (by omega) hm1 hm2
    · rintro ⟨h1, h2, h3⟩
      refine ⟨⟨⟨fun g hg => h1 g (by omega), fun g hg => h2 g (by omega), fun g k hk hg => h3 g k hk (by omega)⟩, h1 n (by omega)⟩, ?_⟩
      by_cases z : lM f y n 3 = 0
      · exact Or.inl z
      · refine Or.inr ⟨h2 n (by omega) z, ?_⟩
        cases e : lL f y n with
        | none => rfl
        | some m =>
          rw [e] at hs
          exact decide_eq_true (h3 n m hs.1 (by omega) z hs.2.1)
def lawF (f : Nat → Int32) (P : zP) (r : Nat) : Bool := lI f (nI r) (pBe P r) (pBu P r) (pRe P) 4 && decide (lC f (nI r) 4 ≤ pTi P)
/-- by the row of one's own turns -/
theorem lawF_iff {f : Nat → Int32} {P : zP} {r : Nat} {t : Nat → Nat} (ht : ∀ g, g < 4 → t g ≤ 3) (hf : ∀ g b, g < 4 → b < 3 → (f (3 * g + b) = nI r ↔ t g = b + 1)) : lawF f P r = true ↔ (∀ g, g < 4 → t g ≠ 0 → (pBe P r).testBit (t g - 1) = true ∧ (pBu P r).testBit g = false) ∧ (∀ g k, k < g → g < 4 → t g ≠ 0 → t k ≠ 0 → pRe P < g - k) ∧ zcnt (fun g => decide (t g ≠ 0)) 4 ≤ pTi P := by
  have hm : ∀ g, g < 4 → lM f (nI r) g 3 = if t g = 0 then 0 else 1 := by
    intro g hg
    have h3 := ht g hg
    have e : lM f (nI r) g 3 = zcnt (fun b => decide (t g = b + 1)) 3 := zcnt_congr (fun b hb => decide_eq_decide.mpr (hf g b hg hb))
    rw [e]
    simp only [zcnt, decide_eq_true_eq]
    rcases (show t g = 0 ∨ t g = 1 ∨ t g = 2 ∨ t g = 3 by omega) with q | q | q | q <;> simp [q]
  have hz : ∀ g, g < 4 → (lM f (nI r) g 3 ≠ 0 ↔ t g ≠ 0) := by
    intro g hg
    rw [hm g hg]
    by_cases q : t g = 0
    · simp [q]
    · simp [q]
  have hc : lC f (nI r) 4 = zcnt (fun g => decide (t g ≠ 0)) 4 := zcnt_congr (fun g hg => decide_eq_decide.mpr (hz g hg))
  unfold lawF
  rw [Bool.and_eq_true, decide_eq_true_eq, hc, lI_iff, and_assoc, and_assoc]
  constructor
  · rintro ⟨h1, h2, h3, h4⟩
    refine ⟨fun g hg hq => ⟨?_, (h2 g hg ((hz g hg).mpr hq)).2⟩, fun g k hk hg a b => h3 g k hk hg ((hz g hg).mpr a) ((hz k (by omega)).mpr b), h4⟩
    have h3 := ht g hg
    exact h1 g hg (t g - 1) (by omega) ((hf g (t g - 1) hg (by omega)).mpr (by omega))
  · rintro ⟨h1, h2, h3⟩
    refine ⟨fun g hg b hb hq => ?_, fun g hg hq => ⟨?_, (h1 g hg ((hz g hg).mp hq)).2⟩, fun g k hk hg a b => h2 g k hk hg ((hz g hg).mp a) ((hz k (by omega)).mp b), h3⟩
    · have hq := (hf g b hg hb).mp hq
      have := (h1 g hg (by omega)).1
      rwa [hq, Nat.add_sub_cancel] at this
    · have := (hz g hg).mp hq
      rw [hm g hg, if_neg this]
section
variable {K : zK} {l : Launch} {n p q r g : Nat} {h h1 : zH} {x y z : Int32} {G : zS} {P : zP} {f : Nat → Int32} {T : zT}
theorem r_X6_isLawful (hM : mCore h P f) (okp : okP P) (hr : r < pR P) : zRet K l 1 mX6_isLawful [.ref 34, .int (nI r)] 59 h (some (.int (bI (lawF f P r)))) h := by
  refine zRet.of (by decide) (Nat.le_of_ble_eq_true rfl) (fun Q hQ => ?_)
  obtain ⟨⟨tr, ty, ⟨at_, st, so, va, fa, to, mo, wa, fe, ev⟩, h1⟩, hP, h46⟩ := id hM
  have h1 : h 34 = .inr _ := h1
  obtain ⟨⟨f1, a1, b1⟩, ⟨f2, a2, b2⟩, ⟨f3, a3, b3⟩, ⟨f4, a4, b4⟩, ⟨f5, a5, b5⟩, ⟨f6, a6, b6⟩, ⟨f7, a7, b7⟩, ⟨f8, a8⟩, ⟨f9, a9, b9⟩, ⟨f10, a10, b10⟩⟩ := id hP
  have kH := okp.1
  have kR := okp.2.1
  have hh := (okp.2.2.2.2.2.2 r hr).2.1
  have kTi := okp.2.2.2.1.2
  have kRe := okp.2.2.2.2.1
  have i12 : zIx (nI r) 12 r := zIx.nI (by omega) (by decide)
  obtain ⟨yy, hyy⟩ : ∃ yy, nI r = yy := ⟨_, rfl⟩
  have lp : ∀ k, k ≤ 4 → zGo K l 1 mX6_isLawful 11 [(0, .ref 34), (1, .int (nI r)), (2, .int (nI (lC f (nI r) k))), (3, .int (oI (lL f (nI r) k))), (4, .int (bI (lI f (nI r) (pBe P r) (pBu P r) (pRe P) k))), (5, .int (nI k))] [] 59 h 0 0 Q := by
    refine z_down 4 (fun k hk ih => ?_)
    have kC := zcnt_le (fun g => decide (lM f (nI r) g 3 ≠ 0)) k
    have kC : lC f (nI r) k ≤ k := kC
    refine kX6_isLawful_11 ?_
    refine zb_go (zg_iload rfl) rfl ?_
    refine zb_go (zg_iconst 4 (by decide)) rfl ?_
    refine zb_br (zg_icmp_ge (tgt := 145) (by decide)) rfl (fun c => ?_) (fun c => ?_)
    · obtain rfl := z_is_le (by decide) hk c
      refine kX6_isLawful_145 ?_
      refine zb_go (zg_iload rfl) rfl ?_
      refine zb_br (zg_if_eq (tgt := 164) (by decide)) rfl (fun c1 => ?_) (fun c1 => ?_)
      · rw [lawF, bI_0.mp c1, Bool.false_and] at hQ
        refine kX6_isLawful_164 ?_
        refine zb_go (zg_iconst 0 (by decide)) rfl ?_
        refine zb_out ?_
        refine kX6_isLawful_165 ?_
        refine zb_end (zg_ireturn rfl (by rfl) ?_) rfl
        exact hQ
      · have c1 := bI_n.mp c1
        rw [lawF, c1, Bool.true_and] at hQ
        refine zb_go (zg_iload_n rfl) rfl ?_
        refine zb_go (zg_aload_n rfl) rfl ?_
        refine zb_go (zg_getfield fX6_38 (by first | decide | assumption | omega) (by repeat (first | assumption | exact z_up_self _ _ _ | refine (z_up_ne (by first | decide | omega)).trans ?_)) (by rfl)) rfl ?_
        refine zb_go (zg_iconst 0 (by decide)) rfl ?_
        refine zb_go (zi_iaload (by first | decide | assumption | omega) (by repeat (first | assumption | exact z_up_self _ _ _ | refine (z_up_ne (by first | decide | omega)).trans ?_)) (by first | assumption | exact zIx.nI (by omega) (by decide) | exact ⟨by decide, by decide⟩ | exact zIx.nI (k := 0) (by decide) (by decide) | exact zIx.nI (k := 1) (by decide) (by decide) | exact zIx.nI (k := 2) (by decide) (by decide) | exact zIx.nI (k := 3) (by decide) (by decide))) rfl ?_
        rw [b9]
        refine zb_br (zg_icmp_gt (tgt := 164) (by decide)) rfl (fun c2 => ?_) (fun c2 => ?_)
        · have c2 := (nI_ltI (by omega) (by omega)).mp c2
          rw [decide_eq_false (by omega)] at hQ
          refine kX6_isLawful_164 ?_
          refine zb_go (zg_iconst 0 (by decide)) rfl ?_
          refine zb_out ?_
          refine kX6_isLawful_165 ?_
          refine zb_end (zg_ireturn rfl (by rfl) ?_) rfl
          exact hQ
        · have c2 : ¬ pTi P < lC f (nI r) 4 := fun z => c2 (nI_lt z (by omega))
          rw [decide_eq_true (by omega)] at hQ
          refine zb_go (zg_iconst 1 (by decide)) rfl ?_
          refine zb_end (zg_goto (tgt := 165) (by decide) ?_) rfl
          refine kX6_isLawful_165 ?_
          refine zb_end (zg_ireturn rfl (by rfl) ?_) rfl
          exact hQ
    · have hk4 := z_not_le (by decide) hk c
      obtain ⟨i0, hi0⟩ : ∃ i0, lI f (nI r) (pBe P r) (pBu P r) (pRe P) k = i0 := ⟨_, rfl⟩
      have eI : lI f (nI r) (pBe P r) (pBu P r) (pRe P) (k + 1) = ((i0 && lB f (nI r) (pBe P r) k 3) && (decide (lM f (nI r) k 3 = 0) || (decide (lM f (nI r) k 3 = 1) && !(pBu P r).testBit k && lG (pRe P) k (lL f (nI r) k)))) := by rw [← hi0]; rfl
      have ih := ih hk4
      rw [eI] at ih
      rw [hi0]
      have il : ∀ b, b ≤ 3 → zGo K l 1 mX6_isLawful 23 [(0, .ref 34), (1, .int (nI r)), (2, .int (nI (lC f (nI r) k))), (3, .int (oI (lL f (nI r) k))), (4, .int (bI (i0 && lB f (nI r) (pBe P r) k b))), (5, .int (nI k)), (6, .int (nI (lM f (nI r) k b))), (7, .int (nI b))] [] 59 h 0 0 Q := by
        refine z_down 3 (fun b hb ih2 => ?_)
        refine kX6_isLawful_23 ?_
        refine zb_go (zg_iload rfl) rfl ?_
        refine zb_go (zg_iconst 3 (by decide)) rfl ?_
        refine zb_br (zg_icmp_ge (tgt := 81) (by decide)) rfl (fun c => ?_) (fun c => ?_)
        · obtain rfl := z_is_le (by decide) hb c
          have kM := lM_le f (nI r) k 3
          refine kX6_isLawful_81 ?_
          refine zb_go (zg_iload rfl) rfl ?_
          refine zb_br (zg_if_le (tgt := 139) (by decide)) rfl (fun c1 => ?_) (fun c1 => ?_)
          · have c1 : lM f (nI r) k 3 = 0 := by
              have := (nI_leI (b := 0) (by omega) (by decide)).mp c1
              omega
            have e1 : lC f (nI r) (k + 1) = lC f (nI r) k := by simp only [lC, zcnt, decide_eq_true_eq, if_neg (show ¬ lM f (nI r) k 3 ≠ 0 from fun z => z c1), Nat.add_zero]
            have e2 : lL f (nI r) (k + 1) = lL f (nI r) k := by simp only [lL, if_pos c1]
            rw [decide_eq_true c1, Bool.true_or, Bool.and_true, e1, e2] at ih
            refine kX6_isLawful_139 ?_
            refine zb_go (zg_iinc 1 (by decide) rfl (by decide)) rfl ?_
            refine zb_end (zg_goto (tgt := 11) (by decide) ?_) rfl
            refine zg_keep [0, 1, 2, 3, 4, 5] ?_
            first | exact ih | (rw [nI_1]; exact ih) | (rw [nI_1, nI_1]; exact ih) | (rw [nI_1, nI_1, nI_1]; exact ih)
          · have c1 : lM f (nI r) k 3 ≠ 0 := fun z => c1 (by rw [z]; decide)
            have e1 : lC f (nI r) (k + 1) = lC f (nI r) k + 1 := by simp only [lC, zcnt, decide_eq_true_eq, if_pos c1]
            have e2 : lL f (nI r) (k + 1) = some k := by simp only [lL, if_neg c1]
            rw [decide_eq_false c1, Bool.false_or, e1, e2] at ih
            have no : (((i0 && lB f (nI r) (pBe P r) k 3) && (decide (lM f (nI r) k 3 = 1) && !(pBu P r).testBit k && lG (pRe P) k (lL f (nI r) k))) = false) → zGo K l 1 mX6_isLawful 130 [(0, .ref 34), (1, .int (nI r)), (2, .int (nI (lC f (nI r) k))), (3, .int (oI (lL f (nI r) k))), (4, .int (bI (i0 && lB f (nI r) (pBe P r) k 3))), (5, .int (nI k)), (6, .int (nI (lM f (nI r) k 3))), (7, .int (nI 3))] [] 59 h 0 0 Q := by
              intro hz
              rw [hz] at ih
              refine kX6_isLawful_130 ?_
              refine zb_go (zg_iconst 0 (by decide)) rfl ?_
              refine zb_out ?_
              refine kX6_isLawful_131 ?_
              refine zb_go (zg_istore (by decide)) rfl ?_
              refine zb_go (zg_iload rfl) rfl ?_
              refine zb_go (zg_istore_n (by decide)) rfl ?_
              refine zb_go (zg_iinc 1 (by decide) rfl (by decide)) rfl ?_
              refine zb_out ?_
              refine kX6_isLawful_139 ?_
              refine zb_go (zg_iinc 1 (by decide) rfl (by decide)) rfl ?_
              refine zb_end (zg_goto (tgt := 11) (by decide) ?_) rfl
              refine zg_keep [0, 1, 2, 3, 4, 5] ?_
              first | exact ih | (rw [nI_1]; exact ih) | (rw [nI_1, nI_1]; exact ih) | (rw [nI_1, nI_1, nI_1]; exact ih)
            have yes : (((i0 && lB f (nI r) (pBe P r) k 3) && (decide (lM f (nI r) k 3 = 1) && !(pBu P r).testBit k && lG (pRe P) k (lL f (nI r) k))) = true) → zGo K l 1 mX6_isLawful 126 [(0, .ref 34), (1, .int (nI r)), (2, .int (nI (lC f (nI r) k))), (3, .int (oI (lL f (nI r) k))), (4, .int (bI (i0 && lB f (nI r) (pBe P r) k 3))), (5, .int (nI k)), (6, .int (nI (lM f (nI r) k 3))), (7, .int (nI 3))] [] 59 h 0 0 Q := by
              intro hz
              rw [hz] at ih
              refine kX6_isLawful_126 ?_
              refine zb_go (zg_iconst 1 (by decide)) rfl ?_
              refine zb_end (zg_goto (tgt := 131) (by decide) ?_) rfl
              refine kX6_isLawful_131 ?_
              refine zb_go (zg_istore (by decide)) rfl ?_
              refine zb_go (zg_iload rfl) rfl ?_
              refine zb_go (zg_istore_n (by decide)) rfl ?_
              refine zb_go (zg_iinc 1 (by decide) rfl (by decide)) rfl ?_
              refine zb_out ?_
              refine kX6_isLawful_139 ?_
              refine zb_go (zg_iinc 1 (by decide) rfl (by decide)) rfl ?_
              refine zb_end (zg_goto (tgt := 11) (by decide) ?_) rfl
              refine zg_keep [0, 1, 2, 3, 4, 5] ?_
              first | exact ih | (rw [nI_1]; exact ih) | (rw [nI_1, nI_1]; exact ih) | (rw [nI_1, nI_1, nI_1]; exact ih)
            refine zb_go (zg_iload rfl) rfl ?_
            refine zb_br (zg_if_eq (tgt := 130) (by decide)) rfl (fun c2 => ?_) (fun c2 => ?_)
            · exact no (by rw [bI_0.mp c2, Bool.false_and])
            · have c2 := bI_n.mp c2
              rw [c2, Bool.true_and] at no yes
              rw [c2]
              refine zb_go (zg_iload rfl) rfl ?_
              refine zb_go (zg_iconst 1 (by decide)) rfl ?_
              refine zb_br (zg_icmp_ne (tgt := 130) (by decide)) rfl (fun c3 => ?_) (fun c3 => ?_)
              · have c3 : lM f (nI r) k 3 ≠ 1 := fun z => c3 (by rw [z]; rfl)
                exact no (by rw [decide_eq_false c3, Bool.false_and, Bool.false_and])
              · have c3 : lM f (nI r) k 3 = 1 := (nI_eq (b := 1) (by omega) (by decide)).mp c3
                rw [decide_eq_true c3, Bool.true_and] at no yes
                refine zb_go (zg_aload_n rfl) rfl ?_
                refine zb_go (zg_iload_n rfl) rfl ?_
                refine zb_go (zg_iload rfl) rfl ?_
                refine zb_callv (r_X6_isBusy hM okp hr hk4) lX6_156 (by repeat (first | assumption | exact z_up_self _ _ _ | refine (z_up_ne (by first | decide | omega)).trans ?_)) rfl rfl (by first | decide | assumption | omega) (by first | decide | omega) rfl (Nat.le_of_ble_eq_true rfl) rfl ?_
                refine zb_br (zg_if_ne (tgt := 130) (by decide)) rfl (fun c4 => ?_) (fun c4 => ?_)
                · have c4 := zb_n.mp c4
                  exact no (by rw [c4]; rfl)
                · have c4 := zb_0.mp c4
                  have c4 : (pBu P r).testBit k = false := by simpa using c4
                  rw [c4, Bool.not_false, Bool.true_and] at no yes
                  cases e : lL f (nI r) k with
                  | none =>
                    rw [e] at no yes
                    refine zb_go (zg_iload_n rfl) rfl ?_
                    refine zb_go (zg_bipush (-9) (by decide)) rfl ?_
                    refine zb_br (zg_icmp_eq (tgt := 126) (by decide)) rfl (fun c5 => ?_) (fun c5 => ?_)
                    · exact yes rfl
                    · exact absurd rfl c5
                  | some m =>
                    rw [e] at no yes
                    have hm := lLa_lt e
                    refine zb_go (zg_iload_n rfl) rfl ?_
                    refine zb_go (zg_bipush (-9) (by decide)) rfl ?_
                    refine zb_br (zg_icmp_eq (tgt := 126) (by decide)) rfl (fun c5 => ?_) (fun c5 => ?_)
                    · exact absurd c5 (nI_ne9 (by omega))
                    · refine zb_go (zg_iload rfl) rfl ?_
                      refine zb_go (zg_iload_n rfl) rfl ?_
                      refine zb_go zg_isub rfl ?_
                      refine zb_go (zg_aload_n rfl) rfl ?_
                      refine zb_go (zg_getfield fX6_41 (by first | decide | assumption | omega) (by repeat (first | assumption | exact z_up_self _ _ _ | refine (z_up_ne (by first | decide | omega)).trans ?_)) (by rfl)) rfl ?_
                      refine zb_go (zg_iconst 0 (by decide)) rfl ?_
                      refine zb_go (zi_iaload (by first | decide | assumption | omega) (by repeat (first | assumption | exact z_up_self _ _ _ | refine (z_up_ne (by first | decide | omega)).trans ?_)) (by first | assumption | exact zIx.nI (by omega) (by decide) | exact ⟨by decide, by decide⟩ | exact zIx.nI (k := 0) (by decide) (by decide) | exact zIx.nI (k := 1) (by decide) (by decide) | exact zIx.nI (k := 2) (by decide) (by decide) | exact zIx.nI (k := 3) (by decide) (by decide))) rfl ?_
                      rw [b10]
                      have e5 : nI k - oI (some m) = nI (k - m) := pk_sub (by omega)
                      rw [e5]
                      refine zb_br (zg_icmp_le (tgt := 130) (by decide)) rfl (fun c6 => ?_) (fun c6 => ?_)
                      · have c6 := (nI_leI (by omega) (by omega)).mp c6
                        exact no (decide_eq_false (by omega))
                      · have c6 : ¬ k - m ≤ pRe P := fun z => c6 (nI_le z (by omega))
                        refine zb_out ?_
                        exact yes (decide_eq_true (by omega))
        · have hb3 := z_not_le (by decide) hb c
          have ih2 := ih2 hb3
          have eB : lB f (nI r) (pBe P r) k (b + 1) = (lB f (nI r) (pBe P r) k b && (!decide (f (3 * k + b) = nI r) || (pBe P r).testBit b)) := rfl
          rw [eB, ← Bool.and_assoc] at ih2
          refine zb_go (zg_aload_n rfl) rfl ?_
          refine zb_go (zg_getfield fX6_44 (by first | decide | assumption | omega) (by repeat (first | assumption | exact z_up_self _ _ _ | refine (z_up_ne (by first | decide | omega)).trans ?_)) (by rfl)) rfl ?_
          refine zb_go (zg_iconst 3 (by decide)) rfl ?_
          refine zb_go (zg_iload rfl) rfl ?_
          refine zb_go zg_imul rfl ?_
          refine zb_go (zg_iload rfl) rfl ?_
          refine zb_go zg_iadd rfl ?_
          refine zb_go (zi_iaload (by first | decide | assumption | omega) (by repeat (first | assumption | exact z_up_self _ _ _ | refine (z_up_ne (by first | decide | omega)).trans ?_)) (z_ix3 hk4 hb3)) rfl ?_
          refine zb_go (zg_iload_n rfl) rfl ?_
          refine zb_br (zg_icmp_ne (tgt := 75) (by decide)) rfl (fun c1 => ?_) (fun c1 => ?_)
          · have e1 : lM f (nI r) k (b + 1) = lM f (nI r) k b := by simp only [lM, zcnt, decide_eq_true_eq, if_neg c1, Nat.add_zero]
            rw [decide_eq_false c1, Bool.not_false, Bool.true_or, Bool.and_true, e1] at ih2
            refine kX6_isLawful_75 ?_
            refine zb_go (zg_iinc 1 (by decide) rfl (by decide)) rfl ?_
            refine zb_end (zg_goto (tgt := 23) (by decide) ?_) rfl
            first | exact ih2 | (rw [nI_1]; exact ih2) | (rw [nI_1, nI_1]; exact ih2) | (rw [nI_1, nI_1, nI_1]; exact ih2)
          · have e1 : lM f (nI r) k (b + 1) = lM f (nI r) k b + 1 := by simp only [lM, zcnt, decide_eq_true_eq, if_pos c1]
            rw [decide_eq_true c1, Bool.not_true, Bool.false_or, e1] at ih2
            have no : (i0 && lB f (nI r) (pBe P r) k b && (pBe P r).testBit b) = false → zGo K l 1 mX6_isLawful 72 [(0, .ref 34), (1, .int (nI r)), (2, .int (nI (lC f (nI r) k))), (3, .int (oI (lL f (nI r) k))), (4, .int (bI (i0 && lB f (nI r) (pBe P r) k b))), (5, .int (nI k)), (6, .int (nI (lM f (nI r) k b) + 1)), (7, .int (nI b))] [] 59 h 0 0 Q := by
              intro hz
              rw [hz] at ih2
              refine kX6_isLawful_72 ?_
              refine zb_go (zg_iconst 0 (by decide)) rfl ?_
              refine zb_out ?_
              refine kX6_isLawful_73 ?_
              refine zb_go (zg_istore (by decide)) rfl ?_
              refine zb_out ?_
              refine kX6_isLawful_75 ?_
              refine zb_go (zg_iinc 1 (by decide) rfl (by decide)) rfl ?_
              refine zb_end (zg_goto (tgt := 23) (by decide) ?_) rfl
              first | exact ih2 | (rw [nI_1]; exact ih2) | (rw [nI_1, nI_1]; exact ih2) | (rw [nI_1, nI_1, nI_1]; exact ih2)
            refine zb_go (zg_iinc 1 (by decide) rfl (by decide)) rfl ?_
            refine zb_go (zg_iload rfl) rfl ?_
            refine zb_br (zg_if_eq (tgt := 72) (by decide)) rfl (fun c2 => ?_) (fun c2 => ?_)
            · exact no (by rw [bI_0.mp c2, Bool.false_and])
            · have c2 := bI_n.mp c2
              rw [c2, Bool.true_and] at no ih2
              rw [c2]
              refine zb_go (zg_aload_n rfl) rfl ?_
              refine zb_go (zg_getfield fX6_26 (by first | decide | assumption | omega) (by repeat (first | assumption | exact z_up_self _ _ _ | refine (z_up_ne (by first | decide | omega)).trans ?_)) (by rfl)) rfl ?_
              refine zb_go (zg_iload_n rfl) rfl ?_
              refine zb_go (zi_iaload (by first | decide | assumption | omega) (by repeat (first | assumption | exact z_up_self _ _ _ | refine (z_up_ne (by first | decide | omega)).trans ?_)) i12) rfl ?_
              refine zb_go (zg_iload rfl) rfl ?_
              refine zb_go zg_ishr rfl ?_
              refine zb_go (zg_iconst 1 (by decide)) rfl ?_
              refine zb_go zg_iand rfl ?_
              refine zb_go (zg_iconst 1 (by decide)) rfl ?_
              refine zb_br (zg_icmp_ne (tgt := 72) (by decide)) rfl (fun c3 => ?_) (fun c3 => ?_)
              · rw [b5 r hr, z_bit (by omega) (by omega)] at c3
                refine no ?_
                rcases Bool.eq_false_or_eq_true ((pBe P r).testBit b) with z | z
                · rw [if_pos z] at c3; exact absurd rfl c3
                · exact z
              · rw [b5 r hr, z_bit (by omega) (by omega)] at c3
                have e3 : (pBe P r).testBit b = true := by
                  rcases Bool.eq_false_or_eq_true ((pBe P r).testBit b) with z | z
                  · exact z
                  · rw [if_neg (by rw [z]; decide)] at c3; exact absurd c3 (by decide)
                rw [e3] at ih2
                refine zb_go (zg_iconst 1 (by decide)) rfl ?_
                refine zb_end (zg_goto (tgt := 73) (by decide) ?_) rfl
                refine kX6_isLawful_73 ?_
                refine zb_go (zg_istore (by decide)) rfl ?_
                refine zb_out ?_
                refine kX6_isLawful_75 ?_
                refine zb_go (zg_iinc 1 (by decide) rfl (by decide)) rfl ?_
                refine zb_end (zg_goto (tgt := 23) (by decide) ?_) rfl
                first | exact ih2 | (rw [nI_1]; exact ih2) | (rw [nI_1, nI_1]; exact ih2) | (rw [nI_1, nI_1, nI_1]; exact ih2)
      refine zb_go (zg_iconst 0 (by decide)) rfl ?_
      refine zb_go (zg_istore (by decide)) rfl ?_
      refine zb_go (zg_iconst 0 (by decide)) rfl ?_
      refine zb_go (zg_istore (by decide)) rfl ?_
      refine zb_out ?_
      have := il 0 (by omega)
      rw [show lB f (nI r) (pBe P r) k 0 = true from rfl, Bool.and_true] at this
      exact this
  refine kX6_isLawful_0 ?_
  refine zb_go (zg_iconst 0 (by decide)) rfl ?_
  refine zb_go (zg_istore_n (by decide)) rfl ?_
  refine zb_go (zg_bipush (-9) (by decide)) rfl ?_
  refine zb_go (zg_istore_n (by decide)) rfl ?_
  refine zb_go (zg_iconst 1 (by decide)) rfl ?_
  refine zb_go (zg_istore (by decide)) rfl ?_
  refine zb_go (zg_iconst 0 (by decide)) rfl ?_
  refine zb_go (zg_istore (by decide)) rfl ?_
  refine zb_out ?_
  exact lp 0 (by omega)
end
