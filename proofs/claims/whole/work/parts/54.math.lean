/-! CREWS: how many can ring at most (Hall), and the first way to seat them by numbers -/
theorem zsb_some {t : Nat → Option Nat} {c : Nat} : (zsb t c 3).isSome = true ↔ ∃ b, b < 3 ∧ (t b).isSome = true := by
  simp only [zsb]
  constructor
  · intro h
    cases e0 : t 0 with
    | some x => exact ⟨0, by decide, by rw [e0]; rfl⟩
    | none =>
      cases e1 : t 1 with
      | some x => exact ⟨1, by decide, by rw [e1]; rfl⟩
      | none =>
        cases e2 : t 2 with
        | some x => exact ⟨2, by decide, by rw [e2]; rfl⟩
        | none =>
          simp [e0, e1, e2] at h
  · rintro ⟨b, hb, h⟩
    cases e0 : t 0 with
    | some x => simp [e0]
    | none =>
      cases e1 : t 1 with
      | some x => simp [e0, e1]
      | none =>
        cases e2 : t 2 with
        | some x => simp [e0, e1, e2]
        | none =>
          rcases (show b = 0 ∨ b = 1 ∨ b = 2 by omega) with rfl | rfl | rfl
          · rw [e0] at h; cases h
          · rw [e1] at h; cases h
          · rw [e2] at h; cases h
def hP (s : Nat) : Nat → Nat
  | 0 => 0
  | j + 1 => hP s j + if s.testBit (5 - j) then 1 else 0
def hN (P : zP) (g am t : Nat) : Nat → Nat
  | 0 => 0
  | j + 1 => hN P g am t j + if am.testBit (5 - j) && decide (sBells P (5 - j) g &&& t ≠ 0) then 1 else 0
theorem hP_6 (s : Nat) : hP s 6 = zpop s := by
  simp only [hP, zpop, zcnt, Nat.zero_add, Nat.reduceSub]
  omega
theorem zcnt_off {p : Nat → Bool} {m : Nat} (h : ∀ i, m ≤ i → p i = false) : ∀ d, zcnt p (m + d) = zcnt p m
  | 0 => rfl
  | d + 1 => by
    show zcnt p (m + d) + (if p (m + d) then 1 else 0) = _
    rw [h (m + d) (by omega), zcnt_off h d]; rfl
theorem hN_6 {P : zP} {g am t : Nat} (okp : okP P) : hN P g am t 6 = sAble P g am t (pR P) := by
  have kR := okp.2.1
  have e := zcnt_off (p := fun r => am.testBit r && decide (sBells P r g &&& t ≠ 0)) (m := pR P) (fun i hi => by
    have : sBells P i g = 0 := by unfold sBells; rw [if_neg (fun z => by omega)]
    show (am.testBit i && decide (sBells P i g &&& t ≠ 0)) = false
    rw [this, Nat.zero_and]; simp) (6 - pR P)
  rw [show pR P + (6 - pR P) = 6 by omega] at e
  rw [sAble, ← e]
  simp only [hN, zcnt, Nat.zero_add, Nat.reduceSub]
  omega
theorem hP_le (s : Nat) : ∀ j, hP s j ≤ j
  | 0 => Nat.le_refl _
  | j + 1 => by
    have := hP_le s j
    simp only [hP]; split <;> omega
theorem d_bits : ∀ W, W < 8 → ∀ tk, tk < 8 → ∀ b, b < 3 → (zdif W tk).testBit b = true → zpop (zdif W (tk ||| 1 <<< b)) + 1 = zpop (zdif W tk) ∧ tk ||| 1 <<< b < 8 := by decide +kernel
theorem d_sub0 : zall (fun W => zall (fun tk => zall (fun b => zall (fun t => !(decide (t &&& zdif W (tk ||| 1 <<< b) = t)) || (decide (t &&& zdif W tk = t) && !t.testBit b)) 8) 3) 8) 8 = true := by decide +kernel
theorem d_sub : ∀ W, W < 8 → ∀ tk, tk < 8 → ∀ b, b < 3 → ∀ t, t < 8 → t &&& zdif W (tk ||| 1 <<< b) = t → t &&& zdif W tk = t ∧ t.testBit b = false := fun W hW tk htk b hb t ht q0 => by
  have := zall_iff.mp (zall_iff.mp (zall_iff.mp (zall_iff.mp (d_sub0) W hW) tk htk) b hb) t ht
  simpa [q0] using this
theorem d_sub20 : zall (fun W => zall (fun tk => zall (fun b => zall (fun t => !(decide (t &&& zdif W tk = t)) || (decide (zdif t (1 <<< b) &&& zdif W (tk ||| 1 <<< b) = zdif t (1 <<< b)) && decide (zdif t (1 <<< b) < 8))) 8) 3) 8) 8 = true := by decide +kernel
theorem d_sub2 : ∀ W, W < 8 → ∀ tk, tk < 8 → ∀ b, b < 3 → ∀ t, t < 8 → t &&& zdif W tk = t → zdif t (1 <<< b) &&& zdif W (tk ||| 1 <<< b) = zdif t (1 <<< b) ∧ zdif t (1 <<< b) < 8 := fun W hW tk htk b hb t ht q0 => by
  have := zall_iff.mp (zall_iff.mp (zall_iff.mp (zall_iff.mp (d_sub20) W hW) tk htk) b hb) t ht
  simpa [q0] using this
theorem d_card : ∀ t, t < 8 → ∀ b, b < 3 → zpop t = zpop (zdif t (1 <<< b)) + if t.testBit b then 1 else 0 := by decide +kernel
theorem d_hita0 : zall (fun M => zall (fun t => zall (fun b => decide (M &&& zdif t (1 <<< b) = 0) || !decide (M &&& t = 0)) 3) 8) 8 = true := by decide +kernel
theorem d_hitb0 : zall (fun M => zall (fun t => zall (fun b => !M.testBit b || !t.testBit b || !decide (M &&& t = 0)) 3) 8) 8 = true := by decide +kernel
theorem d_hit : ∀ M, M < 8 → ∀ t, t < 8 → ∀ b, b < 3 → (M &&& zdif t (1 <<< b) ≠ 0 → M &&& t ≠ 0) ∧ (M.testBit b = true → t.testBit b = true → M &&& t ≠ 0) := fun M hM t ht b hb => by
  have h1 := zall_iff.mp (zall_iff.mp (zall_iff.mp d_hita0 M hM) t ht) b hb
  have h2 := zall_iff.mp (zall_iff.mp (zall_iff.mp d_hitb0 M hM) t ht) b hb
  refine ⟨fun q => ?_, fun q1 q2 => ?_⟩
  · simpa [q] using h1
  · simpa [q1, q2] using h2
theorem d_hit2 : ∀ M, M < 8 → ∀ t, t < 8 → ∀ u, u < 8 → (if M &&& (t &&& u) ≠ 0 then 1 else 0) + (if M &&& (t ||| u) ≠ 0 then 1 else 0) ≤ (if M &&& t ≠ 0 then 1 else 0) + (if M &&& u ≠ 0 then 1 else 0) := by decide +kernel
theorem d_card2 : ∀ t, t < 8 → ∀ u, u < 8 → zpop (t &&& u) + zpop (t ||| u) = zpop t + zpop u := by decide +kernel
theorem d_lt2 : ∀ t, t < 8 → ∀ u, u < 8 → (t &&& u < 8 ∧ t ||| u < 8) := by decide +kernel
theorem d_sub30 : zall (fun T => zall (fun t => zall (fun u => !(decide (t &&& T = t)) || !(decide (u &&& T = u)) || (decide ((t &&& u) &&& T = t &&& u) && decide ((t ||| u) &&& T = t ||| u))) 8) 8) 8 = true := by decide +kernel
theorem d_sub3 : ∀ T, T < 8 → ∀ t, t < 8 → ∀ u, u < 8 → t &&& T = t → u &&& T = u → (t &&& u) &&& T = t &&& u ∧ (t ||| u) &&& T = t ||| u := fun T hT t ht u hu q0 q1 => by
  have := zall_iff.mp (zall_iff.mp (zall_iff.mp (d_sub30) T hT) t ht) u hu
  simpa [q0, q1] using this
theorem d_hit30 : zall (fun M => zall (fun W => !decide (M &&& W = M) || zall (fun tk => zall (fun t => !decide (t &&& zdif W tk = t) || (decide (M &&& t = 0) == decide (t &&& zdif M tk = 0))) 8) 8) 8) 8 = true := by decide +kernel
theorem d_hit3 : ∀ M, M < 8 → ∀ W, W < 8 → M &&& W = M → ∀ tk, tk < 8 → ∀ t, t < 8 → t &&& zdif W tk = t → (M &&& t ≠ 0 ↔ t &&& zdif M tk ≠ 0) := fun M hM W hW q tk htk t ht q2 => by
  have h1 := zall_iff.mp (zall_iff.mp d_hit30 M hM) W hW
  rw [decide_eq_true q, Bool.not_true, Bool.false_or] at h1
  have h2 := zall_iff.mp (zall_iff.mp h1 tk htk) t ht
  rw [decide_eq_true q2, Bool.not_true, Bool.false_or, beq_iff_eq, decide_eq_decide] at h2
  exact not_congr h2
theorem d_in0 : zall (fun M => zall (fun W => !decide (M &&& W = M) || zall (fun tk => zall (fun b => !(zdif M tk).testBit b || (zdif W tk).testBit b) 3) 8) 8) 8 = true := by decide +kernel
theorem d_in : ∀ M, M < 8 → ∀ W, W < 8 → M &&& W = M → ∀ tk, tk < 8 → ∀ b, b < 3 → (zdif M tk).testBit b = true → (zdif W tk).testBit b = true := fun M hM W hW q tk htk b hb q2 => by
  have h1 := zall_iff.mp (zall_iff.mp d_in0 M hM) W hW
  rw [decide_eq_true q, Bool.not_true, Bool.false_or] at h1
  have h2 := zall_iff.mp (zall_iff.mp h1 tk htk) b hb
  rwa [q2, Bool.not_true, Bool.false_or] at h2
theorem d_and0 : ∀ u, u < 8 → ∀ m, m < 8 → (∀ b, b < 3 → m.testBit b = true → u.testBit b = false) → u &&& m = 0 := by decide +kernel
theorem d_and3 : ∀ t, t < 8 → ∀ u, u < 8 → ∀ v, v < 8 → ∀ b, b < 3 → (t.testBit b = false ∨ u.testBit b = false ∨ v.testBit b = false) → (t &&& u &&& v).testBit b = false := fun t _ u _ v _ b _ h => by
  rw [Nat.testBit_and, Nat.testBit_and]
  rcases h with h | h | h <;> rw [h] <;> simp
theorem d_dif8 : ∀ M, M < 8 → ∀ tk, tk < 8 → zdif M tk < 8 := by decide +kernel
theorem d_mono0 : zall (fun W => zall (fun tk => zall (fun t => !decide (t &&& zdif W tk = t) || decide (zpop t ≤ zpop (zdif W tk))) 8) 8) 8 = true := by decide +kernel
theorem d_mono : ∀ W, W < 8 → ∀ tk, tk < 8 → ∀ t, t < 8 → t &&& zdif W tk = t → zpop t ≤ zpop (zdif W tk) := fun W hW tk htk t ht q => by
  have := zall_iff.mp (zall_iff.mp (zall_iff.mp d_mono0 W hW) tk htk) t ht
  simpa [q] using this
theorem sBells_W {P : zP} {r g : Nat} : sBells P r g &&& (2 ^ pW P g - 1) = sBells P r g := by
  unfold sBells
  split
  · rw [Nat.and_assoc, Nat.and_self]
  · exact Nat.zero_and _
theorem hN_sub {P : zP} {g am t u : Nat} (okp : okP P) (ht : t < 8) (hu : u < 8) : ∀ j, hN P g am (t &&& u) j + hN P g am (t ||| u) j ≤ hN P g am t j + hN P g am u j
  | 0 => by simp [hN]
  | j + 1 => by
    have ih := hN_sub (P := P) (g := g) (am := am) (t := t) (u := u) okp ht hu j
    have hM := sBells_lt (r := 5 - j) (g := g) okp
    have d := d_hit2 (sBells P (5 - j) g) (by omega) t ht u hu
    simp only [hN]
    rcases Bool.eq_false_or_eq_true (am.testBit (5 - j)) with w | w
    · simp only [w, Bool.true_and, decide_eq_true_eq]
      omega
    · simp only [w, Bool.false_and, Bool.false_eq_true, if_false]
      omega
theorem hN_mono {P : zP} {g am t b : Nat} (okp : okP P) (ht : t < 8) (hb : b < 3) : ∀ j, hN P g am (zdif t (1 <<< b)) j ≤ hN P g am t j
  | 0 => Nat.le_refl _
  | j + 1 => by
    have ih := hN_mono (P := P) (g := g) (am := am) (t := t) (b := b) okp ht hb j
    have hM := sBells_lt (r := 5 - j) (g := g) okp
    have d := (d_hit (sBells P (5 - j) g) (by omega) t ht b hb).1
    simp only [hN]
    by_cases w : sBells P (5 - j) g &&& zdif t (1 <<< b) ≠ 0
    · have w2 := d w
      simp only [w, w2, ne_eq, not_false_eq_true, decide_true, Bool.and_true]
      omega
    · simp only [w, decide_false, Bool.and_false, Bool.false_eq_true, if_false]
      omega
/-- no set of bells bars more -/
theorem hall_le {P : zP} {g am s : Nat} (okp : okP P) (hg : g < pH P) (hs : ∀ i, s.testBit i = true → am.testBit i = true) : ∀ j, j ≤ 6 → ∀ tk, tk < 8 → (zseat P g s j tk).isSome = true → ∀ t, t < 8 → t &&& zdif (2 ^ pW P g - 1) tk = t → hP s j + zpop t ≤ zpop (zdif (2 ^ pW P g - 1) tk) + hN P g am t j
  | 0, _, tk, htk, _, t, ht, hsub => by
    have hW : 2 ^ pW P g - 1 < 8 := by have := pW_pow okp hg; omega
    have := d_mono _ hW tk htk t ht hsub
    simp only [hP, hN]; omega
  | j + 1, hj, tk, htk, h, t, ht, hsub => by
    have hW : 2 ^ pW P g - 1 < 8 := by have := pW_pow okp hg; omega
    obtain ⟨W, eW⟩ : ∃ W, 2 ^ pW P g - 1 = W := ⟨_, rfl⟩
    have hMW := sBells_W (P := P) (r := 5 - j) (g := g)
    rw [eW] at hW hsub hMW ⊢
    have hM := sBells_lt (r := 5 - j) (g := g) okp
    by_cases hb : s.testBit (5 - j) = true
    · rw [zseat_sb P g s j tk hb, zsb_some] at h
      obtain ⟨b, hb3, hz⟩ := h
      by_cases q : (zdif (sBells P (5 - j) g) tk).testBit b = true
      · rw [if_pos q] at hz
        have q2 := d_in _ (by omega) W hW hMW tk htk b hb3 q
        obtain ⟨c1, c2⟩ := d_bits W hW tk htk b hb3 q2
        obtain ⟨c3, c4⟩ := d_sub2 W hW tk htk b hb3 t ht hsub
        have ih := hall_le (am := am) okp hg hs j (by omega) (tk ||| 1 <<< b) c2 hz (zdif t (1 <<< b)) c4 (by rw [eW]; exact c3)
        rw [eW] at ih
        have c5 := d_card t ht b hb3
        have c6 := hN_mono (P := P) (g := g) (am := am) okp ht hb3 j
        have c7 : (sBells P (5 - j) g).testBit b = true := by
          rw [zdif_bit, Bool.and_eq_true] at q
          exact q.1
        simp only [hP, hN, if_pos hb, hs _ hb, Bool.true_and, decide_eq_true_eq]
        by_cases w : t.testBit b = true
        · have c8 := (d_hit _ (by omega) t ht b hb3).2 c7 w
          rw [if_pos w] at c5
          rw [if_pos c8]
          omega
        · rw [if_neg w] at c5
          omega
      · rw [if_neg q] at hz; cases hz
    · have h : (zseat P g s j tk).isSome = true := by
        simp only [zseat, if_neg hb] at h; exact h
      have ih := hall_le (am := am) okp hg hs j (by omega) tk htk h t ht (by rw [eW]; exact hsub)
      rw [eW] at ih
      simp only [hP, hN, if_neg hb]
      omega
theorem zseat_congr {P : zP} {g s s' : Nat} : ∀ j, j ≤ 6 → (∀ i, 6 - j ≤ i → i < 6 → s.testBit i = s'.testBit i) → ∀ tk, zseat P g s j tk = zseat P g s' j tk
  | 0, _, _, _ => rfl
  | j + 1, hj, h, tk => by
    have e := h (5 - j) (by omega) (by omega)
    have ih := zseat_congr (P := P) (g := g) (s := s) (s' := s') j (by omega) (fun i h1 h2 => h i (by omega) h2)
    simp only [zseat, e, ih]
theorem hP_congr {s s' : Nat} : ∀ j, j ≤ 6 → (∀ i, 6 - j ≤ i → i < 6 → s.testBit i = s'.testBit i) → hP s j = hP s' j
  | 0, _, _ => rfl
  | j + 1, hj, h => by
    have e := h (5 - j) (by omega) (by omega)
    have ih := hP_congr (s := s) (s' := s') j (by omega) (fun i h1 h2 => h i (by omega) h2)
    simp only [hP, e, ih]
/-- as many as no set of bells bars -/
theorem hall_ge {P : zP} {g am : Nat} (okp : okP P) (hg : g < pH P) : ∀ j, j ≤ 6 → ∀ tk, tk < 8 → ∀ v, (∀ t, t < 8 → t &&& zdif (2 ^ pW P g - 1) tk = t → v + zpop t ≤ zpop (zdif (2 ^ pW P g - 1) tk) + hN P g am t j) → ∃ s, (∀ i, s.testBit i = true → 6 - j ≤ i ∧ i < 6 ∧ am.testBit i = true) ∧ (zseat P g s j tk).isSome = true ∧ v ≤ hP s j
  | 0, _, tk, htk, v, h => by
    have hW : 2 ^ pW P g - 1 < 8 := by have := pW_pow okp hg; omega
    have h1 := h (zdif (2 ^ pW P g - 1) tk) (d_dif8 _ hW tk htk) (Nat.and_self _)
    simp only [hN] at h1
    exact ⟨0, fun i hi => by simp at hi, rfl, by simp only [hP]; omega⟩
  | j + 1, hj, tk, htk, v, h => by
    have hW : 2 ^ pW P g - 1 < 8 := by have := pW_pow okp hg; omega
    have hMW := sBells_W (P := P) (r := 5 - j) (g := g)
    have ihA := fun tk htk v => hall_ge (P := P) (g := g) (am := am) okp hg j (by omega) tk htk v
    obtain ⟨W, eW⟩ : ∃ W, 2 ^ pW P g - 1 = W := ⟨_, rfl⟩
    rw [eW] at hW h hMW ihA
    have hM := sBells_lt (r := 5 - j) (g := g) okp
    obtain ⟨M, eM⟩ : ∃ M, sBells P (5 - j) g = M := ⟨_, rfl⟩
    rw [eM] at hM hMW
    have hM : M < 8 := by omega
    have skip : (∀ t, t < 8 → t &&& zdif W tk = t → v + zpop t ≤ zpop (zdif W tk) + hN P g am t j) → ∃ s, (∀ i, s.testBit i = true → 6 - (j + 1) ≤ i ∧ i < 6 ∧ am.testBit i = true) ∧ (zseat P g s (j + 1) tk).isSome = true ∧ v ≤ hP s (j + 1) := by
      intro hh
      obtain ⟨s, s1, s2, s3⟩ := ihA tk htk v hh
      have hb : ¬ s.testBit (5 - j) = true := fun z => by have := (s1 _ z).1; omega
      refine ⟨s, fun i hi => ?_, ?_, ?_⟩
      · obtain ⟨a, b, c⟩ := s1 i hi
        exact ⟨by omega, b, c⟩
      · simp only [zseat, if_neg hb]; exact s2
      · simp only [hP, if_neg hb]; omega
    by_cases ha : am.testBit (5 - j) = true
    · by_cases all : ∀ t, t < 8 → t &&& zdif W tk = t → v + zpop t ≤ zpop (zdif W tk) + hN P g am t j
      · exact skip all
      · obtain ⟨t0, n1⟩ := Classical.not_forall.mp all
        obtain ⟨h0, n2⟩ := Classical.not_imp.mp n1
        obtain ⟨h0s, n3⟩ := Classical.not_imp.mp n2
        have hle : ∀ t, t < 8 → t &&& zdif W tk = t → v + zpop t ≤ zpop (zdif W tk) + hN P g am t j + 1 := fun t ht hts => by
          have := h t ht hts
          simp only [hN] at this
          split at this <;> omega
        -- tight sets
        have tight_hit : ∀ t, t < 8 → t &&& zdif W tk = t → zpop (zdif W tk) + hN P g am t j < v + zpop t → t &&& zdif M tk ≠ 0 := fun t ht hts hx => by
          have := h t ht hts
          simp only [hN, ha, Bool.true_and, decide_eq_true_eq, eM] at this
          refine (d_hit3 M hM W hW hMW tk htk t ht hts).mp ?_
          intro z
          rw [if_neg (by rw [z]; exact fun y => y rfl)] at this
          omega
        have tight_and : ∀ t, t < 8 → t &&& zdif W tk = t → zpop (zdif W tk) + hN P g am t j < v + zpop t → ∀ u, u < 8 → u &&& zdif W tk = u → zpop (zdif W tk) + hN P g am u j < v + zpop u → (t &&& u < 8 ∧ (t &&& u) &&& zdif W tk = t &&& u ∧ zpop (zdif W tk) + hN P g am (t &&& u) j < v + zpop (t &&& u)) := fun t ht hts hx u hu hus hy => by
          obtain ⟨l1, l2⟩ := d_lt2 t ht u hu
          obtain ⟨l3, l4⟩ := d_sub3 (zdif W tk) (d_dif8 W hW tk htk) t ht u hu hts hus
          have c1 := d_card2 t ht u hu
          have c2 := hN_sub (P := P) (g := g) (am := am) okp ht hu j
          have c3 := hle _ l2 l4
          exact ⟨l1, l3, by omega⟩
        have ex : ∃ b, b < 3 ∧ (zdif M tk).testBit b = true ∧ ∀ t, t < 8 → t &&& zdif W tk = t → zpop (zdif W tk) + hN P g am t j < v + zpop t → t.testBit b = true := by
          refine Classical.byContradiction fun hno => ?_
          have pick : ∀ b, b < 3 → ∃ t, (t < 8 ∧ t &&& zdif W tk = t ∧ zpop (zdif W tk) + hN P g am t j < v + zpop t) ∧ ((zdif M tk).testBit b = true → t.testBit b = false) := fun b hb => by
            by_cases q : (zdif M tk).testBit b = true
            · refine Classical.byContradiction fun hn2 => hno ⟨b, hb, q, fun t ht hts hx => ?_⟩
              rcases Bool.eq_false_or_eq_true (t.testBit b) with w | w
              · exact w
              · exact absurd ⟨t, ⟨ht, hts, hx⟩, fun _ => w⟩ hn2
            · exact ⟨t0, ⟨h0, h0s, by omega⟩, fun z => absurd z q⟩
          obtain ⟨ta, ⟨a1, a2, a3⟩, a4⟩ := pick 0 (by decide)
          obtain ⟨tb, ⟨b1, b2, b3⟩, b4⟩ := pick 1 (by decide)
          obtain ⟨tc, ⟨c1, c2, c3⟩, c4⟩ := pick 2 (by decide)
          obtain ⟨e1, e2, e3⟩ := tight_and ta a1 a2 a3 tb b1 b2 b3
          obtain ⟨f1, f2, f3⟩ := tight_and _ e1 e2 e3 tc c1 c2 c3
          refine tight_hit _ f1 f2 f3 (d_and0 _ f1 _ (d_dif8 M hM tk htk) (fun b hb hq => ?_))
          refine d_and3 ta a1 tb b1 tc c1 b hb ?_
          rcases (show b = 0 ∨ b = 1 ∨ b = 2 by omega) with rfl | rfl | rfl
          · exact Or.inl (a4 hq)
          · exact Or.inr (Or.inl (b4 hq))
          · exact Or.inr (Or.inr (c4 hq))
        obtain ⟨b, hb3, hbM, hbt⟩ := ex
        have hv1 : 1 ≤ v := by have := d_mono W hW tk htk t0 h0 h0s; omega
        have q2 := d_in M hM W hW hMW tk htk b hb3 hbM
        obtain ⟨c1, c2⟩ := d_bits W hW tk htk b hb3 q2
        obtain ⟨s, s1, s2, s3⟩ := ihA (tk ||| 1 <<< b) c2 (v - 1) (fun t ht hts => by
          obtain ⟨l1, l2⟩ := d_sub W hW tk htk b hb3 t ht hts
          rcases Nat.lt_or_ge (zpop (zdif W tk) + hN P g am t j) (v + zpop t) with w | w
          · have := hbt t ht l1 w
            rw [l2] at this; cases this
          · omega)
        have hbit : ∀ i, (s ||| 1 <<< (5 - j)).testBit i = (s.testBit i || decide (i = 5 - j)) := fun i => by rw [Nat.testBit_or, z_one]
        have hc : ∀ i, 6 - j ≤ i → i < 6 → s.testBit i = (s ||| 1 <<< (5 - j)).testBit i := fun i h1 h2 => by
          rw [hbit, decide_eq_false (by omega), Bool.or_false]
        have hb : (s ||| 1 <<< (5 - j)).testBit (5 - j) = true := by rw [hbit, decide_eq_true rfl, Bool.or_true]
        refine ⟨s ||| 1 <<< (5 - j), fun i hi => ?_, ?_, ?_⟩
        · rw [hbit, Bool.or_eq_true] at hi
          rcases hi with hi | hi
          · obtain ⟨a, b, c⟩ := s1 i hi
            exact ⟨by omega, b, c⟩
          · have := of_decide_eq_true hi
            subst this
            exact ⟨by omega, by omega, ha⟩
        · rw [zseat_sb P g _ j tk hb, zsb_some]
          refine ⟨b, hb3, ?_⟩
          rw [eM, if_pos hbM, ← zseat_congr j (by omega) hc]
          exact s2
        · simp only [hP, if_pos hb, ← hP_congr j (by omega) hc]
          omega
    · refine skip (fun t ht hts => ?_)
      have := h t ht hts
      simp only [hN] at this
      rw [if_neg (by simp [ha])] at this
      exact this
/-- the most that can ring, of these -/
def zTop (P : zP) (g am : Nat) : Nat := pW P g - zmx (sLost P g am) (2 ^ pW P g)
theorem zpop_mask : ∀ w, w ≤ 3 → zpop (2 ^ w - 1) = w := by decide +kernel
theorem sub_mask : ∀ w, w ≤ 3 → ∀ t, t < 8 → (t &&& (2 ^ w - 1) = t ↔ t < 2 ^ w) := by decide +kernel
theorem zdif_z : ∀ W, W < 8 → zdif W 0 = W := by decide +kernel
theorem zTop_le {P : zP} {g am s : Nat} (okp : okP P) (hg : g < pH P) (hs : ∀ i, s.testBit i = true → am.testBit i = true) (hr : (zrow P g s).isSome = true) : zpop s ≤ zTop P g am := by
  have kW := (okp.2.2.2.2.2.1 g hg).2
  have hW : 2 ^ pW P g - 1 < 8 := by have := pW_pow okp hg; omega
  rw [zrow, if_pos hg] at hr
  by_cases q : zpop s ≤ pW P g
  · rw [if_pos q] at hr
    have h := hall_le (am := am) okp hg hs 6 (by decide) 0 (by decide) hr
    rw [zdif_z _ hW, zpop_mask _ kW, hP_6] at h
    have hm : zmx (sLost P g am) (2 ^ pW P g) ≤ pW P g - zpop s := zmx_le (fun t ht => by
      have hp := pW_pow okp hg
      have h1 := h t (by omega) ((sub_mask _ kW t (by omega)).mpr ht)
      rw [hN_6 okp] at h1
      unfold sLost
      omega)
    unfold zTop
    omega
  · rw [if_neg q] at hr; cases hr
theorem zTop_at {P : zP} {g am : Nat} (okp : okP P) (hg : g < pH P) : ∃ s, s < 64 ∧ (∀ i, s.testBit i = true → am.testBit i = true) ∧ (zrow P g s).isSome = true ∧ zpop s = zTop P g am := by
  have kW := (okp.2.2.2.2.2.1 g hg).2
  have hW : 2 ^ pW P g - 1 < 8 := by have := pW_pow okp hg; omega
  have h := hall_ge (am := am) okp hg 6 (by decide) 0 (by decide) (zTop P g am)
  rw [zdif_z _ hW, zpop_mask _ kW] at h
  obtain ⟨s, s1, s2, s3⟩ := h (fun t ht hts => by
    have ht2 := (sub_mask _ kW t ht).mp hts
    rw [hN_6 okp]
    have hx : sLost P g am t ≤ zmx (sLost P g am) (2 ^ pW P g) := le_zmx ht2
    have hp : zpop t ≤ pW P g := by
      have key : ∀ w, w ≤ 3 → ∀ t, t < 2 ^ w → zpop t ≤ w := by decide +kernel
      exact key _ kW t ht2
    unfold sLost at hx
    unfold zTop
    unfold sLost
    omega)
  rw [hP_6] at s3
  have h1 : s < 64 := Nat.lt_pow_two_of_testBit (n := 6) _ (fun i hi => by
    rcases Bool.eq_false_or_eq_true (s.testBit i) with w | w
    · have := (s1 i w).2.1; omega
    · exact w)
  have h2 := hall_le (am := am) okp hg (fun i hi => (s1 i hi).2.2) 6 (by decide) 0 (by decide) s2 0 (by decide) (Nat.zero_and _)
  have h3 : hN P g am 0 6 = 0 := by
    have key : ∀ j, hN P g am 0 j = 0 := fun j => by
      induction j with
      | zero => rfl
      | succ j ih => simp [hN, ih, Nat.and_zero]
    exact key 6
  rw [zdif_z _ hW, zpop_mask _ kW, hP_6, h3, zpop_0] at h2
  have hr : (zrow P g s).isSome = true := by
    rw [zrow, if_pos hg, if_pos (by omega)]; exact s2
  have h4 := zTop_le (am := am) okp hg (fun i hi => (s1 i hi).2.2) hr
  exact ⟨s, h1, fun i hi => (s1 i hi).2.2, hr, by omega⟩
/-- the first of a number of tries -/
def wF (F : Nat → Option Nat) : Nat → Option Nat
  | 0 => none
  | n + 1 => match wF F n with
    | some x => some x
    | none => F n
theorem wF_add (F : Nat → Option Nat) (a : Nat) : ∀ n, wF F (a + n) = match wF F a with
    | some x => some x
    | none => wF (fun i => F (a + i)) n
  | 0 => by
    show wF F a = _
    cases wF F a <;> rfl
  | n + 1 => by
    show (match wF F (a + n) with | some x => some x | none => F (a + n)) = _
    rw [wF_add F a n]
    cases wF F a <;> rfl
theorem wF_congr {F F' : Nat → Option Nat} : ∀ n, (∀ i, i < n → F i = F' i) → wF F n = wF F' n
  | 0, _ => rfl
  | n + 1, h => by
    show (match wF F n with | some x => some x | none => F n) = (match wF F' n with | some x => some x | none => F' n)
    rw [wF_congr n (fun i hi => h i (by omega)), h n (by omega)]
theorem wF_none : ∀ n, wF (fun _ => none) n = none
  | 0 => rfl
  | n + 1 => by
    show (match wF (fun _ => none) n with | some x => some x | none => none) = none
    rw [wF_none n]
theorem wF_map (F : Nat → Option Nat) (f : Nat → Nat) : ∀ n, wF (fun i => (F i).map f) n = (wF F n).map f
  | 0 => rfl
  | n + 1 => by
    show (match wF (fun i => (F i).map f) n with | some x => some x | none => (F n).map f) = Option.map f (match wF F n with | some x => some x | none => F n)
    rw [wF_map F f n]
    cases wF F n <;> rfl
/-- one try: the bells by the digits of q -/
def zTry (P : zP) (g s : Nat) : Nat → Nat → Nat → Option Nat
  | 0, _, _ => some 0
  | j + 1, tk, q => if s.testBit (5 - j) then (if (zdif (sBells P (5 - j) g) tk).testBit (q / 9) then (zTry P g s j (tk ||| 1 <<< (q / 9)) (q % 9 * 3)).map (fun x => x + (q / 9 + 1) * 4 ^ (5 - j)) else none) else zTry P g s j tk q
theorem wF_3 (F : Nat → Option Nat) (t : Nat → Option Nat) (c n : Nat) (h : ∀ b, b < 3 → ∀ i, i < n → F (b * n + i) = F (b * n + i)) (hb : ∀ b, b < 3 → wF (fun i => F (b * n + i)) n = (t b).map (fun x => x + (b + 1) * c)) : wF F (3 * n) = zsb t c 3 := by
  have e0 := hb 0 (by decide)
  have e1 := hb 1 (by decide)
  have e2 := hb 2 (by decide)
  rw [show 3 * n = n + n + n by omega, wF_add F (n + n) n, wF_add F n n]
  have f0 : wF F n = (t 0).map (fun x => x + (0 + 1) * c) := by
    rw [← e0]; exact wF_congr n (fun i _ => by rw [Nat.zero_mul, Nat.zero_add])
  have f1 : wF (fun i => F (n + i)) n = (t 1).map (fun x => x + (1 + 1) * c) := by
    rw [← e1]; exact wF_congr n (fun i _ => by rw [Nat.one_mul])
  have f2 : wF (fun i => F (n + n + i)) n = (t 2).map (fun x => x + (2 + 1) * c) := by
    rw [← e2]; exact wF_congr n (fun i _ => by rw [show 2 * n = n + n by omega])
  rw [f0, f1, f2]
  simp only [zsb]
  cases t 0 with
  | some x => rfl
  | none =>
    cases t 1 with
    | some x => rfl
    | none =>
      cases t 2 with
      | some x => rfl
      | none => rfl
theorem zTry_first {P : zP} {g s : Nat} : ∀ j, j ≤ 6 → ∀ m, hP s j = m → m ≤ 3 → ∀ tk, zseat P g s j tk = wF (fun c => zTry P g s j tk (c * 3 ^ (3 - m))) (3 ^ m)
  | 0, _, m, hm, _, tk => by
    simp only [hP] at hm
    subst hm
    rfl
  | j + 1, hj, m, hm, hm3, tk => by
    by_cases hb : s.testBit (5 - j) = true
    · simp only [hP, if_pos hb] at hm
      obtain ⟨m', rfl⟩ : ∃ m', m = m' + 1 := ⟨hP s j, by omega⟩
      have ih := zTry_first (P := P) (g := g) (s := s) j (by omega) m' (by omega) (by omega)
      rw [zseat_sb P g s j tk hb, Nat.pow_succ, Nat.mul_comm (3 ^ m') 3]
      refine (wF_3 _ _ _ _ (fun _ _ _ _ => rfl) (fun b hb3 => ?_)).symm
      have harith : ∀ i, i < 3 ^ m' → (b * 3 ^ m' + i) * 3 ^ (3 - (m' + 1)) / 9 = b ∧ (b * 3 ^ m' + i) * 3 ^ (3 - (m' + 1)) % 9 * 3 = i * 3 ^ (3 - m') := by
        intro i hi
        rcases (show m' = 0 ∨ m' = 1 ∨ m' = 2 by omega) with rfl | rfl | rfl
        · have hi : i < 1 := hi
          show (b * 1 + i) * 9 / 9 = b ∧ (b * 1 + i) * 9 % 9 * 3 = i * 27
          omega
        · have hi : i < 3 := hi
          show (b * 3 + i) * 3 / 9 = b ∧ (b * 3 + i) * 3 % 9 * 3 = i * 9
          omega
        · have hi : i < 9 := hi
          show (b * 9 + i) * 1 / 9 = b ∧ (b * 9 + i) * 1 % 9 * 3 = i * 3
          omega
      have e : ∀ i, i < 3 ^ m' → zTry P g s (j + 1) tk ((b * 3 ^ m' + i) * 3 ^ (3 - (m' + 1))) = (if (zdif (sBells P (5 - j) g) tk).testBit b then (zTry P g s j (tk ||| 1 <<< b) (i * 3 ^ (3 - m'))).map (fun x => x + (b + 1) * 4 ^ (5 - j)) else none) := by
        intro i hi
        obtain ⟨h1, h2⟩ := harith i hi
        simp only [zTry, if_pos hb, h1, h2]
      rw [wF_congr _ e]
      by_cases q : (zdif (sBells P (5 - j) g) tk).testBit b = true
      · rw [if_pos q, ih (tk ||| 1 <<< b), ← wF_map]
        exact wF_congr _ (fun i _ => by rw [if_pos q])
      · rw [if_neg q, wF_congr _ (fun i _ => by rw [if_neg q]), wF_none]; rfl
    · simp only [hP, if_neg hb, Nat.add_zero] at hm
      have ih := zTry_first (P := P) (g := g) (s := s) j (by omega) m hm hm3 tk
      have e1 : zseat P g s (j + 1) tk = zseat P g s j tk := by simp only [zseat, if_neg hb]
      rw [e1, ih]
      exact wF_congr _ (fun i _ => by simp only [zTry, if_neg hb])
