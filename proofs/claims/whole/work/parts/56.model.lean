/-! THE MODEL (8): findCrews -/
def crAt (P : zP) (g : Nat) (cr bo cm : Nat → Int32) (L : List Nat) : Prop := cm g = nI L.length ∧ L.length ≤ 64 ∧ ∀ i, i < L.length → cr (64 * g + i) = nI (L.getD i 0) ∧ bo (64 * g + i) = nI ((zrow P g (L.getD i 0)).getD 0)
def crAll (P : zP) (g : Nat) (L : List Nat) : Prop := (∀ s, s ∈ L ↔ s < 64 ∧ (zrow P g s).isSome = true) ∧ ∀ s, s ∈ L → zpop s ≤ zpop (L.getD 0 0)
def fcH (h h' : zH) (cr bo cm : Nat → Int32) : Prop := h' 48 = .inl (0, 256, .inl cr) ∧ h' 49 = .inl (0, 256, .inl bo) ∧ h' 50 = .inl (0, 4, .inl cm) ∧ zSame 48 50 h h'
/-- those before a size and a set -/
def crSome (P : zP) (g n0 set : Nat) (L : List Nat) : Prop := (∀ s, s ∈ L ↔ s < 2 ^ pR P ∧ (zrow P g s).isSome = true ∧ (n0 < zpop s ∨ (zpop s = n0 ∧ s < set))) ∧ (∀ s, s ∈ L → zpop s ≤ zpop (L.getD 0 0)) ∧ L.length ≤ zcnt (fun s => decide (n0 < zpop s) && decide (zpop s ≤ 3)) 64 + zcnt (fun s => decide (zpop s = n0)) set
theorem zrow_3 {P : zP} {g s : Nat} (okp : okP P) (h : (zrow P g s).isSome = true) : zpop s ≤ 3 := Nat.le_trans (zrow_pop h) (wN_le okp g)
theorem crSome_0 {P : zP} {g : Nat} (okp : okP P) : crSome P g 3 0 [] :=
  ⟨fun s => ⟨fun h => absurd h List.not_mem_nil, fun h => by have := zrow_3 okp h.2.1; omega⟩, fun s h => absurd h List.not_mem_nil, Nat.zero_le _⟩
theorem cr_sum : ∀ n0, n0 < 3 → zcnt (fun s => decide (n0 + 1 < zpop s) && decide (zpop s ≤ 3)) 64 + zcnt (fun s => decide (zpop s = n0 + 1)) 64 ≤ zcnt (fun s => decide (n0 < zpop s) && decide (zpop s ≤ 3)) 64 := by decide +kernel
theorem cr_max : ∀ n0, n0 ≤ 3 → zcnt (fun s => decide (n0 < zpop s) && decide (zpop s ≤ 3)) 64 + zcnt (fun s => decide (zpop s = n0)) 64 ≤ 42 := by decide +kernel
theorem pR_64 {P : zP} (okp : okP P) : 2 ^ pR P ≤ 64 := Nat.pow_le_pow_right (n := 2) (by decide) okp.2.1
theorem crSome_next {P : zP} {g n0 : Nat} {L : List Nat} (okp : okP P) (hn : n0 < 3) (h : crSome P g (n0 + 1) (2 ^ pR P) L) : crSome P g n0 0 L := by
  refine ⟨fun s => ?_, h.2.1, ?_⟩
  · rw [h.1 s]
    exact and_congr_right fun a => and_congr_right fun _ => by omega
  · have h1 := h.2.2
    have h2 := cr_sum n0 hn
    have h3 : zcnt (fun s => decide (zpop s = n0 + 1)) (2 ^ pR P) ≤ zcnt (fun s => decide (zpop s = n0 + 1)) 64 := zcnt_mono (pR_64 okp)
    have e0 : zcnt (fun s => decide (zpop s = n0)) 0 = 0 := rfl
    rw [e0]
    omega
theorem crSome_end {P : zP} {g : Nat} {L : List Nat} (okp : okP P) (h : crSome P g 0 (2 ^ pR P) L) : crAll P g L := by
  refine ⟨fun s => ?_, h.2.1⟩
  rw [h.1 s]
  have h64 := pR_64 okp
  constructor
  · rintro ⟨a, b, -⟩
    exact ⟨by omega, b⟩
  · rintro ⟨a, b⟩
    have hs : s < 2 ^ pR P := Nat.lt_pow_two_of_testBit _ (fun i hi => by
      rcases Bool.eq_false_or_eq_true (s.testBit i) with w | w
      · have := zrow_pR b a w
        omega
      · exact w)
    exact ⟨hs, b, by omega⟩
theorem crSome_skip {P : zP} {g n0 set : Nat} {L : List Nat} (h : crSome P g n0 set L) (hz : zpop set = n0 → (zrow P g set).isSome = false) : crSome P g n0 (set + 1) L := by
  refine ⟨fun s => ?_, h.2.1, ?_⟩
  · rw [h.1 s]
    refine and_congr_right fun a => and_congr_right fun b => ?_
    constructor
    · rintro (c | ⟨c, d⟩)
      · exact Or.inl c
      · exact Or.inr ⟨c, by omega⟩
    · rintro (c | ⟨c, d⟩)
      · exact Or.inl c
      · refine Or.inr ⟨c, ?_⟩
        rcases Nat.lt_or_ge s set with e | e
        · exact e
        · have : s = set := by omega
          subst this
          rw [hz c] at b; cases b
  · have h1 := h.2.2
    have : zcnt (fun s => decide (zpop s = n0)) set ≤ zcnt (fun s => decide (zpop s = n0)) (set + 1) := zcnt_mono (by omega)
    omega
theorem getD_app {L : List Nat} {s i : Nat} (hi : i < L.length) : (L ++ [s]).getD i 0 = L.getD i 0 := by
  rw [List.getD_eq_getElem?_getD, List.getD_eq_getElem?_getD, List.getElem?_append_left hi]
theorem getD_app_last {L : List Nat} {s : Nat} : (L ++ [s]).getD L.length 0 = s := by
  rw [List.getD_eq_getElem?_getD, List.getElem?_append_right (Nat.le_refl _)]; simp
theorem crSome_add {P : zP} {g n0 set : Nat} {L : List Nat} (h : crSome P g n0 set L) (hset : set < 2 ^ pR P) (hp : zpop set = n0) (hz : (zrow P g set).isSome = true) : crSome P g n0 (set + 1) (L ++ [set]) := by
  have hge : ∀ s, s ∈ L → n0 ≤ zpop s := fun s hs => by
    have := ((h.1 s).mp hs).2.2
    omega
  refine ⟨fun s => ?_, fun s hs => ?_, ?_⟩
  · rw [List.mem_append, List.mem_singleton, h.1 s]
    constructor
    · rintro (⟨a, b, c⟩ | rfl)
      · exact ⟨a, b, by omega⟩
      · exact ⟨hset, hz, Or.inr ⟨hp, by omega⟩⟩
    · rintro ⟨a, b, c⟩
      by_cases q : s = set
      · exact Or.inr q
      · exact Or.inl ⟨a, b, by omega⟩
  · rw [List.mem_append, List.mem_singleton] at hs
    rcases Nat.eq_zero_or_pos L.length with q | q
    · have : L = [] := List.length_eq_zero_iff.mp q
      subst this
      rcases hs with hs | hs
      · exact absurd hs List.not_mem_nil
      · subst hs; exact Nat.le_refl _
    · rw [getD_app q]
      rcases hs with hs | hs
      · exact h.2.1 s hs
      · rw [hs, hp]
        refine hge _ ?_
        rw [z_getD q]
        exact List.getElem_mem q
  · have h1 := h.2.2
    have e : zcnt (fun s => decide (zpop s = n0)) (set + 1) = zcnt (fun s => decide (zpop s = n0)) set + 1 := by
      simp only [zcnt, decide_eq_true hp, if_true]
    rw [e, List.length_append]
    show L.length + 1 ≤ _
    omega
theorem crSome_lt {P : zP} {g n0 set : Nat} {L : List Nat} (h : crSome P g n0 set L) (hn : n0 ≤ 3) (hs : set ≤ 64) : L.length ≤ 42 := by
  have h1 := h.2.2
  have h2 := cr_max n0 hn
  have h3 : zcnt (fun s => decide (zpop s = n0)) set ≤ zcnt (fun s => decide (zpop s = n0)) 64 := zcnt_mono hs
  omega
theorem crAt_add {P : zP} {g set len x : Nat} {cr bo cm : Nat → Int32} {L : List Nat} (h : crAt P g cr bo cm L) (hl : L.length < 64) (hlen : len = L.length) (hx : x = (zrow P g set).getD 0) : crAt P g (upd cr (64 * g + len) (nI set)) (upd bo (64 * g + len) (nI x)) (upd cm g (nI (len + 1))) (L ++ [set]) := by
  subst hlen
  refine ⟨?_, ?_, fun i hi => ?_⟩
  · rw [pk_us, List.length_append]; rfl
  · rw [List.length_append]; exact hl
  · have hi : i < L.length + 1 := by rw [List.length_append] at hi; exact hi
    by_cases q : i = L.length
    · subst q
      rw [pk_us, pk_us, getD_app_last, hx]
      exact ⟨rfl, rfl⟩
    · rw [pk_un (by omega), pk_un (by omega), getD_app (by omega)]
      exact h.2.2 i (by omega)
theorem crAt_keep {P : zP} {g k len : Nat} {x y z : Int32} {cr bo cm : Nat → Int32} {L : List Nat} (h : crAt P k cr bo cm L) (hk : k ≠ g) (hl : len < 64) : crAt P k (upd cr (64 * g + len) x) (upd bo (64 * g + len) y) (upd cm g z) L := by
  refine ⟨?_, h.2.1, fun i hi => ?_⟩
  · rw [pk_un hk]; exact h.1
  · have := h.2.1
    rw [pk_un (by omega), pk_un (by omega)]
    exact h.2.2 i hi
def mCrews (P : zP) (cr bo cm : Nat → Int32) (L : Nat → List Nat) : Prop := ∀ g, g < 4 → crAt P g cr bo cm (L g) ∧ crAll P g (L g)
theorem zseat_lt (P : zP) (g s : Nat) : ∀ j, j ≤ 6 → ∀ tk x, zseat P g s j tk = some x → x + 4 ^ (6 - j) ≤ 4096
  | 0, _, tk, x, h => by simp only [zseat] at h; cases h; decide
  | j + 1, hj, tk, x, h => by
    have ih := fun tk x => zseat_lt P g s j (by omega) tk x
    have e4 : 4 ^ (6 - j) = 4 ^ (6 - (j + 1)) * 4 := by rw [← Nat.pow_succ]; congr 1; omega
    have e5 : 5 - j = 6 - (j + 1) := by omega
    by_cases hb : s.testBit (5 - j) = true
    · rw [zseat_sb P g s j tk hb] at h
      have key : ∀ k, k ≤ 3 → ∀ x, zsb (fun b => if (zdif (sBells P (5 - j) g) tk).testBit b then zseat P g s j (tk ||| 1 <<< b) else none) (4 ^ (5 - j)) k = some x → x + 4 ^ (6 - (j + 1)) ≤ 4096 := by
        intro k
        induction k with
        | zero => intro _ x h; cases h
        | succ k ihk =>
          intro hk x h
          simp only [zsb] at h
          split at h
          · next z hz =>
            split at hz
            · have := ih _ _ hz
              cases h
              have hm : (3 - k) * 4 ^ (5 - j) ≤ 3 * 4 ^ (5 - j) := Nat.mul_le_mul_right _ (by omega)
              rw [e5] at hm ⊢
              omega
            · cases hz
          · exact ihk (by omega) x h
      exact key 3 (by decide) x h
    · simp only [zseat, if_neg hb] at h
      have := ih _ _ h
      have hp : 0 < 4 ^ (6 - (j + 1)) := Nat.pow_pos (by decide)
      omega
section
variable {K : zK} {l : Launch} {n p q r g : Nat} {h h1 : zH} {x y z : Int32} {G : zS} {P : zP} {f : Nat → Int32} {T : zT}
theorem zrow_off {P : zP} {g s : Nat} (hg : ¬ g < pH P) : zrow P g s = if s = 0 then some 0 else none := by rw [zrow, if_neg hg]
theorem zrow_neg9 {P : zP} {g s : Nat} (hs : s < 64) (okp : okP P) : oI (zrow P g s) = -9 ↔ (zrow P g s).isSome = false := by
  cases e : zrow P g s with
  | none => exact ⟨fun _ => rfl, fun _ => rfl⟩
  | some x =>
    have hx : x < 2 ^ 31 := by
      by_cases hg : g < pH P
      · rw [zrow, if_pos hg] at e
        split at e
        · have := zseat_lt P g s 6 (by decide) 0 x e
          have h1 : 4 ^ (6 - 6) = 1 := rfl
          omega
        · cases e
      · rw [zrow_off hg] at e
        split at e <;> cases e
        decide
    exact ⟨fun q => absurd q (nI_ne9 hx), fun q => by cases q⟩
theorem z_one_shl {k : Nat} (hk : k < 31) : (1 : Int32) <<< (nI k &&& 31) = nI (2 ^ k) := by
  rw [show (1 : Int32) = nI 1 from rfl, z_shl (by omega), Nat.one_shiftLeft]
theorem mRoom.fc {cr bo cm : Nat → Int32} (hR : mRoom h) (a : fcH h h1 cr bo cm) : mRoom h1 := by
  obtain ⟨-, -, -, r4, r5, r6, r7, r8, r9, r10, r11⟩ := hR
  obtain ⟨a1, a2, a3, s⟩ := a
  obtain ⟨r4, c4⟩ := r4
  obtain ⟨r5, c5⟩ := r5
  obtain ⟨r6, c6, d6⟩ := r6
  obtain ⟨r7, c7, d7⟩ := r7
  obtain ⟨r8, c8, d8⟩ := r8
  obtain ⟨r9, c9, d9⟩ := r9
  obtain ⟨r10, c10⟩ := r10
  obtain ⟨r11, c11⟩ := r11
  exact ⟨⟨_, a1⟩, ⟨_, a2⟩, ⟨_, a3⟩, ⟨r4, (s _ (by omega)).trans c4⟩, ⟨r5, (s _ (by omega)).trans c5⟩, ⟨r6, (s _ (by omega)).trans c6, d6⟩, ⟨r7, (s _ (by omega)).trans c7, d7⟩, ⟨r8, (s _ (by omega)).trans c8, d8⟩, ⟨r9, (s _ (by omega)).trans c9, d9⟩, ⟨r10, (s _ (by omega)).trans c10⟩, ⟨r11, (s _ (by omega)).trans c11⟩⟩
set_option maxHeartbeats 8000000 in
theorem r_X6_findCrews (hM : mCore h P f) (okp : okP P) (hR : mRoom h) : zRex K l 2 mX6_findCrews [.ref 34] 59 h (fun v h' => v = none ∧ ∃ cr bo cm L, fcH h h' cr bo cm ∧ mCrews P cr bo cm L) := by
  refine zRex.of (by decide) (Nat.le_of_ble_eq_true rfl) (fun Q hQ => ?_)
  obtain ⟨⟨tr, ty, ⟨at_, st, so, va, fa, to, mo, wa, fe, ev⟩, h1⟩, hP, h46⟩ := id hM
  have h1 : h 34 = .inr _ := h1
  obtain ⟨⟨f1, a1, b1⟩, ⟨f2, a2, b2⟩, ⟨f3, a3, b3⟩, ⟨f4, a4, b4⟩, ⟨f5, a5, b5⟩, ⟨f6, a6, b6⟩, ⟨f7, a7, b7⟩, ⟨f8, a8⟩, ⟨f9, a9, b9⟩, ⟨f10, a10, b10⟩⟩ := id hP
  have kH := okp.1
  have kR := okp.2.1
  have kR64 := pR_64 okp
  have lpH : ∀ k, k ≤ 4 → ∀ h0 cr bo cm (L : Nat → List Nat), fcH h h0 cr bo cm → (∀ g, g < k → crAt P g cr bo cm (L g) ∧ crAll P g (L g)) → zGo K l 2 mX6_findCrews 2 [(0, .ref 34), (1, .int (nI k))] [] 59 h0 0 0 Q := by
    refine z_down 4 (fun k hk ih h0 cr bo cm L hf hL => ?_)
    have g34 : h0 34 = _ := (hf.2.2.2 34 (by omega)).trans h1
    have g50 := hf.2.2.1
    refine kX6_findCrews_2 ?_
    refine zb_go (zg_iload_n rfl) rfl ?_
    refine zb_go (zg_iconst 4 (by decide)) rfl ?_
    refine zb_br (zg_icmp_ge (tgt := 148) (by decide)) rfl (fun c => ?_) (fun c => ?_)
    · obtain rfl := z_is_le (by decide) hk c
      refine kX6_findCrews_148 ?_
      refine zb_end (zg_return rfl ?_) rfl
      exact hQ _ _ ⟨rfl, cr, bo, cm, L, hf, hL⟩
    · have hk4 := z_not_le (by decide) hk c
      have ih := ih hk4
      have i4 : zIx (nI k) 4 k := zIx.nI (by omega) (by decide)
      have lpN : ∀ m, m ≤ 4 → ∀ h2 cr bo cm (Lk : List Nat), fcH h h2 cr bo cm → (∀ g, g < k → crAt P g cr bo cm (L g) ∧ crAll P g (L g)) → crAt P k cr bo cm Lk → (m < 4 → crSome P k (3 - m) 0 Lk) → (m = 4 → crAll P k Lk) → zGo K l 2 mX6_findCrews 16 [(0, .ref 34), (1, .int (nI k)), (2, .int (nI (4 - m) - 1))] [] 59 h2 0 0 Q := by
        refine z_down 4 (fun m hm ihN h2 cr bo cm Lk hf hL hk1 hk2 hk3 => ?_)
        refine kX6_findCrews_16 ?_
        refine zb_go (zg_iload_n rfl) rfl ?_
        refine zb_br (zg_if_lt (tgt := 142) (by decide)) rfl (fun c1 => ?_) (fun c1 => ?_)
        · have e : m = 4 := by
            rcases Nat.lt_or_ge m 4 with w | w
            · rw [show 4 - m = (3 - m) + 1 by omega, nI_pred] at c1
              exact absurd c1 (nI_pos (by omega))
            · omega
          subst e
          refine kX6_findCrews_142 ?_
          refine zb_go (zg_iinc 1 (by decide) rfl (by decide)) rfl ?_
          refine zb_end (zg_goto (tgt := 2) (by decide) ?_) rfl
          rw [nI_1]
          refine zg_keep [0, 1] ?_
          refine ih h2 cr bo cm (fun g => if g = k then Lk else L g) hf (fun g hg => ?_)
          by_cases w : g = k
          · rw [if_pos w, w]; exact ⟨hk1, hk3 rfl⟩
          · rw [if_neg w]; exact hL g (by omega)
        · have hm4 : m < 4 := by
            rcases Nat.lt_or_ge m 4 with w | w
            · exact w
            · rw [show 4 - m = 0 by omega] at c1
              exact absurd (by decide) c1
          have ihN := ihN hm4
          have en : nI (4 - m) - 1 = nI (3 - m) := by rw [show 4 - m = (3 - m) + 1 by omega, nI_pred]
          rw [en]
          have lpS : ∀ t, t ≤ 2 ^ pR P → ∀ h3 cr bo cm (Lk : List Nat), fcH h h3 cr bo cm → (∀ g, g < k → crAt P g cr bo cm (L g) ∧ crAll P g (L g)) → crAt P k cr bo cm Lk → crSome P k (3 - m) t Lk → zGo K l 2 mX6_findCrews 22 [(0, .ref 34), (1, .int (nI k)), (2, .int (nI (3 - m))), (3, .int (nI t))] [] 59 h3 0 0 Q := by
            refine z_down (2 ^ pR P) (fun t ht ihS h3 cr bo cm Lk hf hL hk1 hk2 => ?_)
            have q34 : h3 34 = _ := (hf.2.2.2 34 (by omega)).trans h1
            have q36 : h3 36 = _ := (hf.2.2.2 36 (by omega)).trans a1
            have q38 : h3 38 = _ := (hf.2.2.2 38 (by omega)).trans a3
            have q50 := hf.2.2.1
            have q48 := hf.1
            have q49 := hf.2.1
            have hc3 : mCore h3 P f := hM.same hf.2.2.2 (by omega)
            refine kX6_findCrews_22 ?_
            refine zb_go (zg_iload_n rfl) rfl ?_
            refine zb_go (zg_iconst 1 (by decide)) rfl ?_
            refine zb_go (zg_aload_n rfl) rfl ?_
            refine zb_go (zg_getfield fX6_20 (by first | decide | assumption | omega) (by repeat (first | assumption | exact z_up_self _ _ _ | refine (z_up_ne (by first | decide | omega)).trans ?_)) (by rfl)) rfl ?_
            refine zb_go (zg_iconst 0 (by decide)) rfl ?_
            refine zb_go (zi_iaload (by first | decide | assumption | omega) (by repeat (first | assumption | exact z_up_self _ _ _ | refine (z_up_ne (by first | decide | omega)).trans ?_)) (by first | assumption | exact zIx.nI (by omega) (by decide) | exact ⟨by decide, by decide⟩ | exact zIx.nI (k := 0) (by decide) (by decide) | exact zIx.nI (k := 1) (by decide) (by decide) | exact zIx.nI (k := 2) (by decide) (by decide) | exact zIx.nI (k := 3) (by decide) (by decide))) rfl ?_
            rw [b3]
            refine zb_go zg_ishl rfl ?_
            rw [z_one_shl (by omega)]
            refine zb_br (zg_icmp_ge (tgt := 136) (by decide)) rfl (fun c2 => ?_) (fun c2 => ?_)
            · obtain rfl := z_is_le (by omega) ht c2
              refine kX6_findCrews_136 ?_
              refine zb_go (zg_iinc (-1) (by decide) rfl (by decide)) rfl ?_
              refine zb_end (zg_goto (tgt := 16) (by decide) ?_) rfl
              have e1 : nI (3 - m) + -1 = nI (4 - (m + 1)) - 1 := by rw [show 4 - (m + 1) = 3 - m by omega, Int32.sub_eq_add_neg]
              rw [e1]
              refine zg_keep [0, 1, 2] ?_
              refine ihN h3 cr bo cm Lk hf hL hk1 (fun w => ?_) (fun w => ?_)
              · rw [show 3 - m = 3 - (m + 1) + 1 by omega] at hk2
                exact crSome_next okp (by omega) hk2
              · rw [show 3 - m = 0 by omega] at hk2
                exact crSome_end okp hk2
            · have ht2 := z_not_le (by omega) ht c2
              have ihS := ihS ht2
              have kt : t < 64 := by omega
              have skip : (zpop t = 3 - m → (zrow P k t).isSome = false) → ∀ ls, zGo K l 2 mX6_findCrews 130 ((0, .ref 34) :: (1, .int (nI k)) :: (2, .int (nI (3 - m))) :: (3, .int (nI t)) :: ls) [] 59 h3 0 0 Q := by
                intro hz ls
                refine zg_sub [(0, .ref 34), (1, .int (nI k)), (2, .int (nI (3 - m))), (3, .int (nI t))] (fun q hq => List.mem_append_left ls hq) ?_
                refine kX6_findCrews_130 ?_
                refine zb_go (zg_iinc 1 (by decide) rfl (by decide)) rfl ?_
                refine zb_end (zg_goto (tgt := 22) (by decide) ?_) rfl
                rw [nI_1]
                exact ihS h3 cr bo cm Lk hf hL hk1 (crSome_skip hk2 hz)
              have go76 : zpop t = 3 - m → zGo K l 2 mX6_findCrews 76 [(0, .ref 34), (1, .int (nI k)), (2, .int (nI (3 - m))), (3, .int (nI t))] [.int (oI (zrow P k t))] 59 h3 0 0 Q := by
                intro hp
                have z9 := zrow_neg9 (P := P) (g := k) (s := t) kt okp
                refine kX6_findCrews_76 ?_
                refine zb_go (zg_istore (by decide)) rfl ?_
                refine zb_go (zg_iload rfl) rfl ?_
                refine zb_go (zg_bipush (-9) (by decide)) rfl ?_
                refine zb_br (zg_icmp_eq (tgt := 130) (by decide)) rfl (fun c3 => ?_) (fun c3 => ?_)
                · refine skip (fun _ => z9.mp c3) [(4, _)]
                · have hsome : (zrow P k t).isSome = true := by
                    rcases Bool.eq_false_or_eq_true (zrow P k t).isSome with w | w
                    · exact w
                    · exact absurd (z9.mpr w) c3
                  obtain ⟨x, hx⟩ := Option.isSome_iff_exists.mp hsome
                  have k42 := crSome_lt hk2 (by omega) (by omega)
                  have ecm := hk1.1
                  have e64 : (64 : Int32) * nI k = nI (64 * k) := pk_mul 64 k
                  have i256 : zIx (nI (64 * k + Lk.length)) 256 (64 * k + Lk.length) := zIx.nI (by omega) (by decide)
                  rw [hx]
                  refine zb_go (zg_aload_n rfl) rfl ?_
                  refine zb_go (zg_getfield fX6_51 (by first | decide | assumption | omega) (by repeat (first | assumption | exact z_up_self _ _ _ | refine (z_up_ne (by first | decide | omega)).trans ?_)) (by rfl)) rfl ?_
                  refine zb_go (zg_bipush 64 (by decide)) rfl ?_
                  refine zb_go (zg_iload_n rfl) rfl ?_
                  refine zb_go zg_imul rfl ?_
                  refine zb_go (zg_aload_n rfl) rfl ?_
                  refine zb_go (zg_getfield fX6_57 (by first | decide | assumption | omega) (by repeat (first | assumption | exact z_up_self _ _ _ | refine (z_up_ne (by first | decide | omega)).trans ?_)) (by rfl)) rfl ?_
                  refine zb_go (zg_iload_n rfl) rfl ?_
                  refine zb_go (zi_iaload (by first | decide | assumption | omega) (by repeat (first | assumption | exact z_up_self _ _ _ | refine (z_up_ne (by first | decide | omega)).trans ?_)) i4) rfl ?_
                  rw [ecm, e64]
                  refine zb_go zg_iadd rfl ?_
                  rw [nI_add]
                  refine zb_go (zg_iload_n rfl) rfl ?_
                  refine zb_go (zi_iastore (by first | decide | assumption | omega) (by repeat (first | assumption | exact z_up_self _ _ _ | refine (z_up_ne (by first | decide | omega)).trans ?_)) i256) rfl ?_
                  refine zb_go (zg_aload_n rfl) rfl ?_
                  refine zb_go (zg_getfield fX6_54 (by first | decide | assumption | omega) (by repeat (first | assumption | exact z_up_self _ _ _ | refine (z_up_ne (by first | decide | omega)).trans ?_)) (by rfl)) rfl ?_
                  refine zb_go (zg_bipush 64 (by decide)) rfl ?_
                  refine zb_go (zg_iload_n rfl) rfl ?_
                  refine zb_go zg_imul rfl ?_
                  refine zb_go (zg_aload_n rfl) rfl ?_
                  refine zb_go (zg_getfield fX6_57 (by first | decide | assumption | omega) (by repeat (first | assumption | exact z_up_self _ _ _ | refine (z_up_ne (by first | decide | omega)).trans ?_)) (by rfl)) rfl ?_
                  refine zb_go (zg_iload_n rfl) rfl ?_
                  refine zb_go (zi_iaload (by first | decide | assumption | omega) (by repeat (first | assumption | exact z_up_self _ _ _ | refine (z_up_ne (by first | decide | omega)).trans ?_)) i4) rfl ?_
                  rw [ecm, e64]
                  refine zb_go zg_iadd rfl ?_
                  rw [nI_add]
                  refine zb_go (zg_iload rfl) rfl ?_
                  refine zb_go (zi_iastore (by first | decide | assumption | omega) (by repeat (first | assumption | exact z_up_self _ _ _ | refine (z_up_ne (by first | decide | omega)).trans ?_)) i256) rfl ?_
                  refine zb_go (zg_aload_n rfl) rfl ?_
                  refine zb_go (zg_getfield fX6_57 (by first | decide | assumption | omega) (by repeat (first | assumption | exact z_up_self _ _ _ | refine (z_up_ne (by first | decide | omega)).trans ?_)) (by rfl)) rfl ?_
                  refine zb_go (zg_iload_n rfl) rfl ?_
                  refine zb_go (zg_dup2 rfl rfl) rfl ?_
                  refine zb_go (zi_iaload (by first | decide | assumption | omega) (by repeat (first | assumption | exact z_up_self _ _ _ | refine (z_up_ne (by first | decide | omega)).trans ?_)) i4) rfl ?_
                  rw [ecm]
                  refine zb_go (zg_iconst 1 (by decide)) rfl ?_
                  refine zb_go zg_iadd rfl ?_
                  refine zb_go (zi_iastore (by first | decide | assumption | omega) (by repeat (first | assumption | exact z_up_self _ _ _ | refine (z_up_ne (by first | decide | omega)).trans ?_)) i4) rfl ?_
                  refine zb_out ?_
                  rw [nI_1]
                  refine zg_keep [0, 1, 2, 3] ?_
                  refine kX6_findCrews_130 ?_
                  refine zb_go (zg_iinc 1 (by decide) rfl (by decide)) rfl ?_
                  refine zb_end (zg_goto (tgt := 22) (by decide) ?_) rfl
                  rw [nI_1]
                  refine ihS _ (upd cr (64 * k + Lk.length) (nI t)) (upd bo (64 * k + Lk.length) (nI x)) (upd cm k (nI (Lk.length + 1))) (Lk ++ [t]) ⟨?_, ?_, z_up_self _ _ _, ((hf.2.2.2.up (by omega) (by omega)).up (by omega) (by omega)).up (by omega) (by omega)⟩ (fun g hg => ⟨crAt_keep (hL g hg).1 (by omega) (by omega), (hL g hg).2⟩) (crAt_add hk1 (by omega) rfl (by rw [hx]; rfl)) (crSome_add hk2 ht2 hp hsome)
                  · exact (z_up_ne (by decide)).trans ((z_up_ne (by decide)).trans (z_up_self _ _ _))
                  · exact (z_up_ne (by decide)).trans (z_up_self _ _ _)
              refine zb_go (zg_iload_n rfl) rfl ?_
              refine zb_calls (r_X6_bitsIn kt) lX6_179 rfl (by first | decide | omega) rfl (Nat.le_of_ble_eq_true rfl) rfl ?_
              refine zb_go (zg_iload_n rfl) rfl ?_
              refine zb_br (zg_icmp_ne (tgt := 130) (by decide)) rfl (fun c3 => ?_) (fun c3 => ?_)
              · exact skip (fun w => absurd (by rw [w]) c3) []
              · have kp := zpop_le t
                have hp : zpop t = 3 - m := (nI_eq (by omega) (by omega)).mp c3
                have go56 : (k < pH P ∨ 3 - m = 0) → zGo K l 2 mX6_findCrews 56 [(0, .ref 34), (1, .int (nI k)), (2, .int (nI (3 - m))), (3, .int (nI t))] [] 59 h3 0 0 Q := by
                  intro hkm
                  refine kX6_findCrews_56 ?_
                  refine zb_go (zg_iload_n rfl) rfl ?_
                  refine zb_go (zg_aload_n rfl) rfl ?_
                  refine zb_go (zg_getfield fX6_13 (by first | decide | assumption | omega) (by repeat (first | assumption | exact z_up_self _ _ _ | refine (z_up_ne (by first | decide | omega)).trans ?_)) (by rfl)) rfl ?_
                  refine zb_go (zg_iconst 0 (by decide)) rfl ?_
                  refine zb_go (zi_iaload (by first | decide | assumption | omega) (by repeat (first | assumption | exact z_up_self _ _ _ | refine (z_up_ne (by first | decide | omega)).trans ?_)) (by first | assumption | exact zIx.nI (by omega) (by decide) | exact ⟨by decide, by decide⟩ | exact zIx.nI (k := 0) (by decide) (by decide) | exact zIx.nI (k := 1) (by decide) (by decide) | exact zIx.nI (k := 2) (by decide) (by decide) | exact zIx.nI (k := 3) (by decide) (by decide))) rfl ?_
                  rw [b1]
                  refine zb_br (zg_icmp_ge (tgt := 75) (by decide)) rfl (fun c5 => ?_) (fun c5 => ?_)
                  · have hkH : ¬ k < pH P := by
                      have := (nI_leI (by omega) (by omega)).mp c5
                      omega
                    have ht0 : t = 0 := zpop_zero t kt (by omega)
                    have e0 : (0 : Int32) = oI (zrow P k t) := by rw [zrow_off hkH, if_pos ht0]; rfl
                    refine kX6_findCrews_75 ?_
                    refine zb_go (zg_iconst 0 (by decide)) rfl ?_
                    refine zb_out ?_
                    rw [e0]
                    exact go76 hp
                  · have hkH : k < pH P := by
                      rcases Nat.lt_or_ge k (pH P) with w | w
                      · exact w
                      · exact absurd (nI_le w (by omega)) c5
                    refine zb_go (zg_aload_n rfl) rfl ?_
                    refine zb_go (zg_iload_n rfl) rfl ?_
                    refine zb_go (zg_iload_n rfl) rfl ?_
                    refine zb_callv (r_X6_wayToRing hc3 okp hkH ht2 (by omega)) lX6_182 (by repeat (first | assumption | exact z_up_self _ _ _ | refine (z_up_ne (by first | decide | omega)).trans ?_)) rfl rfl (by first | decide | assumption | omega) (by first | decide | omega) rfl (Nat.le_of_ble_eq_true rfl) rfl ?_
                    refine zb_end (zg_goto (tgt := 76) (by decide) ?_) rfl
                    exact go76 hp
                refine zb_go (zg_iload_n rfl) rfl ?_
                refine zb_go (zg_aload_n rfl) rfl ?_
                refine zb_go (zg_getfield fX6_13 (by first | decide | assumption | omega) (by repeat (first | assumption | exact z_up_self _ _ _ | refine (z_up_ne (by first | decide | omega)).trans ?_)) (by rfl)) rfl ?_
                refine zb_go (zg_iconst 0 (by decide)) rfl ?_
                refine zb_go (zi_iaload (by first | decide | assumption | omega) (by repeat (first | assumption | exact z_up_self _ _ _ | refine (z_up_ne (by first | decide | omega)).trans ?_)) (by first | assumption | exact zIx.nI (by omega) (by decide) | exact ⟨by decide, by decide⟩ | exact zIx.nI (k := 0) (by decide) (by decide) | exact zIx.nI (k := 1) (by decide) (by decide) | exact zIx.nI (k := 2) (by decide) (by decide) | exact zIx.nI (k := 3) (by decide) (by decide))) rfl ?_
                rw [b1]
                refine zb_br (zg_icmp_lt (tgt := 56) (by decide)) rfl (fun c4 => ?_) (fun c4 => ?_)
                · exact go56 (Or.inl ((nI_ltI (by omega) (by omega)).mp c4))
                · have hkH : ¬ k < pH P := fun w => c4 (nI_lt w (by omega))
                  refine zb_go (zg_iload_n rfl) rfl ?_
                  refine zb_br (zg_if_ne (tgt := 130) (by decide)) rfl (fun c5 => ?_) (fun c5 => ?_)
                  · refine skip (fun w => ?_) []
                    have : 3 - m ≠ 0 := fun w => c5 (by rw [w]; rfl)
                    rw [zrow_off hkH, if_neg]
                    · rfl
                    · intro y
                      rw [y, zpop_0] at hp
                      omega
                  · refine zb_out ?_
                    exact go56 (Or.inr ((nI_eq (b := 0) (by omega) (by decide)).mp c5))
          refine zb_go (zg_iconst 0 (by decide)) rfl ?_
          refine zb_go (zg_istore_n (by decide)) rfl ?_
          refine zb_out ?_
          exact lpS 0 (Nat.zero_le _) h2 cr bo cm Lk hf hL hk1 (hk2 hm4)
      refine zb_go (zg_aload_n rfl) rfl ?_
      refine zb_go (zg_getfield fX6_57 (by first | decide | assumption | omega) (by repeat (first | assumption | exact z_up_self _ _ _ | refine (z_up_ne (by first | decide | omega)).trans ?_)) (by rfl)) rfl ?_
      refine zb_go (zg_iload_n rfl) rfl ?_
      refine zb_go (zg_iconst 0 (by decide)) rfl ?_
      refine zb_go (zi_iastore (by first | decide | assumption | omega) (by repeat (first | assumption | exact z_up_self _ _ _ | refine (z_up_ne (by first | decide | omega)).trans ?_)) i4) rfl ?_
      refine zb_go (zg_iconst 3 (by decide)) rfl ?_
      refine zb_go (zg_istore_n (by decide)) rfl ?_
      refine zb_out ?_
      refine lpN 0 (by omega) _ cr bo (upd cm k 0) [] ⟨(z_up_ne (by decide)).trans hf.1, (z_up_ne (by decide)).trans hf.2.1, z_up_self _ _ _, hf.2.2.2.up (by omega) (by omega)⟩ (fun g hg => ⟨⟨?_, (hL g hg).1.2.1, (hL g hg).1.2.2⟩, (hL g hg).2⟩) ⟨pk_us, Nat.zero_le _, fun i hi => absurd hi (Nat.not_lt_zero _)⟩ (fun _ => crSome_0 okp) (fun w => by omega)
      rw [pk_un (by omega)]; exact (hL g hg).1.1
  obtain ⟨⟨r1, c1⟩, ⟨r2, c2⟩, ⟨r3, c3⟩, -⟩ := hR
  refine kX6_findCrews_0 ?_
  refine zb_go (zg_iconst 0 (by decide)) rfl ?_
  refine zb_go (zg_istore_n (by decide)) rfl ?_
  refine zb_out ?_
  exact lpH 0 (by omega) h r1 r2 r3 (fun _ => []) ⟨c1, c2, c3, zSame.rf⟩ (fun g hg => by omega)
end
