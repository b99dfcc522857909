/-! THE TEXT AS THE MODEL READS IT: tokens -/
def zu (x : Int32) : Nat := (x &&& 255).toNatClampNeg
theorem byte0 : zall (fun n => decide (((Int8.ofNat n).toInt32 &&& 255) = nI n) && (if n < 128 then decide ((Int8.ofNat n).toInt32 = nI n) else decide ((Int8.ofNat n).toInt32 < 0))) 256 = true := by decide +kernel
theorem zu_spec {x : Int32} (h : isByte x) : x &&& 255 = nI (zu x) ∧ zu x < 256 ∧ (zu x < 128 → x = nI (zu x)) ∧ (128 ≤ zu x → x < 0) := by
  have e : x.toInt8 = Int8.ofNat x.toInt8.toBitVec.toNat := by
    refine Int8.toBitVec_inj.mp ?_
    show _ = BitVec.ofNat 8 _
    rw [BitVec.ofNat_toNat, BitVec.setWidth_eq]
  have hn : x.toInt8.toBitVec.toNat < 256 := x.toInt8.toBitVec.isLt
  obtain ⟨n, en⟩ : ∃ n, x.toInt8.toBitVec.toNat = n := ⟨_, rfl⟩
  rw [en] at e hn
  have hx : x = (Int8.ofNat n).toInt32 := by rw [← e]; exact h.symm
  have k := zall_iff.mp byte0 n hn
  rw [Bool.and_eq_true, decide_eq_true_eq] at k
  have ez : zu x = n := by
    unfold zu
    rw [hx, k.1, nI_clamp (by omega)]
  rw [ez]
  refine ⟨by rw [hx]; exact k.1, hn, fun h1 => ?_, fun h1 => ?_⟩
  · have := k.2
    rw [if_pos h1] at this
    rw [hx]; exact of_decide_eq_true this
  · have := k.2
    rw [if_neg (by omega)] at this
    rw [hx]; exact of_decide_eq_true this
theorem zu_eq {x : Int32} {k : Nat} (h : isByte x) (hk : k < 128) : x = nI k ↔ zu x = k := by
  obtain ⟨-, a, b, c⟩ := zu_spec h
  rcases Nat.lt_or_ge (zu x) 128 with q | q
  · rw [b q]
    rw [nI_eq (by omega) (by omega), show zu (nI (zu x)) = zu x by rw [← b q]]
  · refine ⟨fun e => ?_, fun e => by omega⟩
    have := c q
    rw [e] at this
    exact absurd this (nI_pos (by omega))
theorem zu_in {x : Int32} {lo hi : Nat} (h : isByte x) (hl : lo ≤ hi) (hh : hi < 128) : (nI lo ≤ x ∧ x ≤ nI hi) ↔ lo ≤ zu x ∧ zu x ≤ hi := by
  obtain ⟨-, a, b, c⟩ := zu_spec h
  rcases Nat.lt_or_ge (zu x) 128 with q | q
  · have e := b q
    generalize zu x = u at *
    subst e
    rw [nI_leI (by omega) (by omega), nI_leI (by omega) (by omega)]
  · refine ⟨fun e => ?_, fun e => by omega⟩
    have := c q
    exact absurd (Int32.lt_of_le_of_lt e.1 this) (nI_pos (by omega))
theorem pAz_zu {f : Nat → Int32} {i : Nat} (h : isByte (f i)) : pAz f i = true ↔ 97 ≤ zu (f i) ∧ zu (f i) ≤ 122 := by
  rw [← zu_in (lo := 97) (hi := 122) h (by decide) (by decide), pAz, Bool.and_eq_true, decide_eq_true_eq, decide_eq_true_eq]
  exact Iff.rfl
theorem p09_zu {f : Nat → Int32} {i : Nat} (h : isByte (f i)) : p09 f i = true ↔ 48 ≤ zu (f i) ∧ zu (f i) ≤ 57 := by
  rw [← zu_in (lo := 48) (hi := 57) h (by decide) (by decide), p09, Bool.and_eq_true, decide_eq_true_eq, decide_eq_true_eq]
  exact Iff.rfl
theorem pBl_zu {f : Nat → Int32} {i : Nat} (h : isByte (f i)) : pBl f i = true ↔ zu (f i) = 32 := by
  rw [pBl, decide_eq_true_eq]
  exact zu_eq (k := 32) h (by decide)
/-- a word's number -/
def kCode (f : Nat → Int32) (s : Nat) : Nat → Nat
  | 0 => 0
  | j + 1 => if j < 6 then 27 * kCode f s j + (zu (f (s + j)) - 96) else 0
def kMean (c : Nat) : Nat := if c = 168984 then 0 else if c = 263344113 then 1 else if c = 10940985 then 2 else if c = 10815598 then 3 else if c = 358472 then 4 else 8
theorem kCode_lt {f : Nat → Int32} {s n : Nat} (h : ∀ j, j < n → 97 ≤ zu (f (s + j)) ∧ zu (f (s + j)) ≤ 122) : ∀ j, j ≤ n → kCode f s j < 27 ^ 6
  | 0, _ => by show 0 < 27 ^ 6; decide
  | j + 1, hj => by
    simp only [kCode]
    split
    · next q =>
      have key : ∀ m, m ≤ j → kCode f s m < 27 ^ m := by
        intro m
        induction m with
        | zero => intro _; exact Nat.zero_lt_one
        | succ m ih =>
          intro hm
          have := ih (by omega)
          have hd := h m (by omega)
          simp only [kCode, if_pos (show m < 6 by omega), Nat.pow_succ]
          omega
      have h1 := key j (Nat.le_refl _)
      have hd := h j (by omega)
      have h2 : 27 ^ j ≤ 27 ^ 5 := Nat.pow_le_pow_right (by decide) (by omega)
      have h3 : (27 : Nat) ^ 6 = 27 * 27 ^ 5 := by decide
      omega
    · decide
/-- one digit off -/
theorem kStep {f : Nat → Int32} {s j C : Nat} (hd : 97 ≤ zu (f (s + j)) ∧ zu (f (s + j)) ≤ 122) (hj : j < 6) : kCode f s (j + 1) = C ↔ (zu (f (s + j)) = C % 27 + 96 ∧ kCode f s j = C / 27) := by
  simp only [kCode, if_pos hj]
  omega
theorem kPos {f : Nat → Int32} {s j : Nat} (hd : 97 ≤ zu (f (s + j)) ∧ zu (f (s + j)) ≤ 122) (hj : j < 6) : kCode f s (j + 1) ≠ 0 := by
  simp only [kCode, if_pos hj]
  omega
/-- the words' numbers are theirs alone -/
theorem kWord {f : Nat → Int32} {s n : Nat} (hn : n ≤ 6) (h : ∀ j, j < n → 97 ≤ zu (f (s + j)) ∧ zu (f (s + j)) ≤ 122) : ∀ (ds : List Nat) (C : Nat), (∀ d, d ∈ ds → 1 ≤ d ∧ d ≤ 26) → C = ds.foldr (fun d a => 27 * a + d) 0 → (kCode f s n = C ↔ (ds.length = n ∧ ∀ t, t < n → zu (f (s + (n - 1 - t))) = ds.getD t 0 + 96)) := by
  induction n with
  | zero =>
    intro ds C hds hC
    cases ds with
    | nil => exact ⟨fun _ => ⟨rfl, fun t ht => by omega⟩, fun _ => by rw [hC]; rfl⟩
    | cons d ds =>
      have hd := hds d List.mem_cons_self
      have e : C = 27 * ds.foldr (fun d a => 27 * a + d) 0 + d := hC
      refine ⟨fun q => ?_, fun q => ?_⟩
      · have q : 0 = C := q
        omega
      · exact absurd q.1 (by simp)
  | succ n ih =>
    intro ds C hds hC
    have ih := ih (by omega) (fun j hj => h j (by omega))
    cases ds with
    | nil =>
      have e : C = 0 := hC
      refine ⟨fun q => ?_, fun q => ?_⟩
      · rw [e] at q
        exact absurd q (kPos (h n (by omega)) (by omega))
      · exact absurd q.1 (by simp)
    | cons d ds =>
      have hd := hds d List.mem_cons_self
      have e : C = 27 * ds.foldr (fun d a => 27 * a + d) 0 + d := hC
      rw [kStep (h n (by omega)) (by omega), ih ds (C / 27) (fun x hx => hds x (List.mem_cons_of_mem _ hx)) (by omega), show C % 27 = d by omega]
      constructor
      · rintro ⟨a, b, c⟩
        refine ⟨by simp [b], fun t ht => ?_⟩
        cases t with
        | zero => rw [show s + (n + 1 - 1 - 0) = s + n by omega]; exact a
        | succ t =>
          rw [show s + (n + 1 - 1 - (t + 1)) = s + (n - 1 - t) by omega]
          exact c t (by omega)
      · rintro ⟨b, c⟩
        refine ⟨?_, by simpa using b, fun t ht => ?_⟩
        · have := c 0 (by omega)
          rw [show s + (n + 1 - 1 - 0) = s + n by omega] at this
          exact this
        · have := c (t + 1) (by omega)
          rw [show s + (n + 1 - 1 - (t + 1)) = s + (n - 1 - t) by omega] at this
          exact this
def kDig (k : Nat) : List Nat := ((z_byt.getD k []).map (fun x => x.toNatClampNeg - 96)).reverse
def kNum (k : Nat) : Nat := (kDig k).foldr (fun d a => 27 * a + d) 0
theorem kDig_ok : ∀ k, k < 5 → (kDig k).length = z_len.getD k 0 ∧ ∀ t, t < z_len.getD k 0 → (z_byt.getD k []).getD t 0 = nI ((kDig k).getD (z_len.getD k 0 - 1 - t) 0 + 96) ∧ (kDig k).getD (z_len.getD k 0 - 1 - t) 0 + 96 < 128 := by decide +kernel
theorem kDig_in : ∀ k, k < 5 → ∀ d, d ∈ kDig k → 1 ≤ d ∧ d ≤ 26 := by decide +kernel
theorem kNum_is : kNum 0 = 168984 ∧ kNum 1 = 263344113 ∧ kNum 2 = 10940985 ∧ kNum 3 = 10815598 ∧ kNum 4 = 358472 := by decide +kernel
theorem kFits {f : Nat → Int32} {s n k : Nat} (hn : n ≤ 6) (hk : k < 5) (hby : ∀ j, j < n → isByte (f (s + j))) (h : ∀ j, j < n → 97 ≤ zu (f (s + j)) ∧ zu (f (s + j)) ≤ 122) : kCode f s n = kNum k ↔ (z_len.getD k 0 = n ∧ ∀ t, t < z_len.getD k 0 → f (s + t) = (z_byt.getD k []).getD t 0) := by
  obtain ⟨d1, d2⟩ := kDig_ok k hk
  rw [kWord hn h (kDig k) (kNum k) (kDig_in k hk) rfl, d1]
  refine and_congr_right fun e => ?_
  rw [e] at d2 ⊢
  constructor
  · intro hz t ht
    have := hz (n - 1 - t) (by omega)
    rw [show n - 1 - (n - 1 - t) = t by omega] at this
    rw [(d2 t ht).1]
    exact (zu_eq (hby t ht) (d2 t ht).2).mpr this
  · intro hz t ht
    have h1 := hz (n - 1 - t) (by omega)
    have h2 := d2 (n - 1 - t) (by omega)
    rw [show n - 1 - (n - 1 - t) = t by omega] at h2
    rw [h2.1] at h1
    exact (zu_eq (hby _ (by omega)) h2.2).mp h1
theorem kMean_is {f : Nat → Int32} {len s : Nat} (hs : s ≤ len) (hby : ∀ j, j < len → isByte (f j)) : kMean (if 6 < pLt f len s - s then 0 else kCode f s (pLt f len s - s)) = (pKind f len s).getD 8 := by
  have hle := pLt_le (f := f) hs
  have hge : s ≤ pLt f len s := pRun_ge _ _ _ _
  have hall : ∀ j, j < pLt f len s - s → isByte (f (s + j)) ∧ 97 ≤ zu (f (s + j)) ∧ zu (f (s + j)) ≤ 122 := fun j hj => by
    have := pRun_all (pAz f) len 200 s (s + j) (by omega) (by unfold pLt at hj; omega)
    exact ⟨hby _ this.1, (pAz_zu (hby _ this.1)).mp this.2⟩
  obtain ⟨n, en⟩ : ∃ n, pLt f len s - s = n := ⟨_, rfl⟩
  unfold pKind
  rw [en] at hall ⊢
  have hz : ∀ k, k < 5 → ((decide (z_len.getD k 0 = n) && zall (fun t => decide (f (s + t) = (z_byt.getD k []).getD t 0)) (z_len.getD k 0)) = true ↔ (z_len.getD k 0 = n ∧ ∀ t, t < z_len.getD k 0 → f (s + t) = (z_byt.getD k []).getD t 0)) := fun k _ => by
    rw [Bool.and_eq_true, decide_eq_true_eq, zall_iff]
    exact and_congr_right fun _ => forall_congr' fun t => forall_congr' fun _ => decide_eq_true_iff
  have h6 : ∀ k, k < 5 → z_len.getD k 0 ≤ 6 := by decide +kernel
  obtain ⟨m0, m1, m2, m3, m4⟩ := kNum_is
  by_cases hn : 6 < n
  · rw [if_pos hn, zfst_none (fun k hk => by
      rcases Bool.eq_false_or_eq_true (decide (z_len.getD k 0 = n) && zall (fun t => decide (f (s + t) = (z_byt.getD k []).getD t 0)) (z_len.getD k 0)) with w | w
      · have := ((hz k hk).mp w).1
        have := h6 k hk
        omega
      · exact w)]
    rfl
  · rw [if_neg hn]
    obtain ⟨p, ep⟩ : ∃ p : Nat → Bool, p = fun k => decide (z_len.getD k 0 = n) && zall (fun t => decide (f (s + t) = (z_byt.getD k []).getD t 0)) (z_len.getD k 0) := ⟨_, rfl⟩
    have hk : ∀ k, k < 5 → (p k = true ↔ kCode f s n = kNum k) := fun k hk => by
      rw [ep]
      exact (hz k hk).trans (kFits (f := f) (s := s) (n := n) (by omega) hk (fun j hj => (hall j hj).1) (fun j hj => (hall j hj).2)).symm
    rw [← ep]
    clear ep hz
    obtain ⟨C, eC⟩ : ∃ C, kCode f s n = C := ⟨_, rfl⟩
    rw [eC] at hk ⊢
    have k0 := hk 0 (by decide)
    have k1 := hk 1 (by decide)
    have k2 := hk 2 (by decide)
    have k3 := hk 3 (by decide)
    have k4 := hk 4 (by decide)
    rw [m0] at k0
    rw [m1] at k1
    rw [m2] at k2
    rw [m3] at k3
    rw [m4] at k4
    unfold kMean
    by_cases c0 : C = 168984
    · rw [if_pos c0, zfst_some (r := 0) (by decide) (k0.mpr c0) (fun i hi => by omega)]; rfl
    · rw [if_neg c0]
      have n0 : p 0 = false := by
        rcases Bool.eq_false_or_eq_true (p 0) with w | w
        · exact absurd (k0.mp w) c0
        · exact w
      by_cases c1 : C = 263344113
      · rw [if_pos c1, zfst_some (r := 1) (by decide) (k1.mpr c1) (fun i hi => by rw [show i = 0 by omega]; exact n0)]; rfl
      · rw [if_neg c1]
        have n1 : p 1 = false := by
          rcases Bool.eq_false_or_eq_true (p 1) with w | w
          · exact absurd (k1.mp w) c1
          · exact w
        by_cases c2 : C = 10940985
        · rw [if_pos c2, zfst_some (r := 2) (by decide) (k2.mpr c2) (fun i hi => by rcases (show i = 0 ∨ i = 1 by omega) with rfl | rfl <;> assumption)]; rfl
        · rw [if_neg c2]
          have n2 : p 2 = false := by
            rcases Bool.eq_false_or_eq_true (p 2) with w | w
            · exact absurd (k2.mp w) c2
            · exact w
          by_cases c3 : C = 10815598
          · rw [if_pos c3, zfst_some (r := 3) (by decide) (k3.mpr c3) (fun i hi => by rcases (show i = 0 ∨ i = 1 ∨ i = 2 by omega) with rfl | rfl | rfl <;> assumption)]; rfl
          · rw [if_neg c3]
            have n3 : p 3 = false := by
              rcases Bool.eq_false_or_eq_true (p 3) with w | w
              · exact absurd (k3.mp w) c3
              · exact w
            by_cases c4 : C = 358472
            · rw [if_pos c4, zfst_some (r := 4) (by decide) (k4.mpr c4) (fun i hi => by rcases (show i = 0 ∨ i = 1 ∨ i = 2 ∨ i = 3 by omega) with rfl | rfl | rfl | rfl <;> assumption)]; rfl
            · rw [if_neg c4]
              have n4 : p 4 = false := by
                rcases Bool.eq_false_or_eq_true (p 4) with w | w
                · exact absurd (k4.mp w) c4
                · exact w
              rw [zfst_none (fun i hi => by rcases (show i = 0 ∨ i = 1 ∨ i = 2 ∨ i = 3 ∨ i = 4 by omega) with rfl | rfl | rfl | rfl | rfl <;> assumption)]
              rfl
/-- a number's value, as it is added up -/
def mVal (f : Nat → Int32) (s : Nat) : Nat → Nat
  | 0 => 0
  | j + 1 => if 99 < mVal f s j then mVal f s j else 10 * mVal f s j + (zu (f (s + j)) - 48)
theorem mVal_le {f : Nat → Int32} {s n : Nat} (h : ∀ j, j < n → 48 ≤ zu (f (s + j)) ∧ zu (f (s + j)) ≤ 57) : ∀ j, j ≤ n → mVal f s j ≤ 999
  | 0, _ => Nat.zero_le _
  | j + 1, hj => by
    have ih := mVal_le h j (by omega)
    have := h j (by omega)
    simp only [mVal]
    split <;> omega
theorem mVal_p {f : Nat → Int32} {s n : Nat} (hby : ∀ j, j < n → isByte (f (s + j))) (h : ∀ j, j < n → 48 ≤ zu (f (s + j)) ∧ zu (f (s + j)) ≤ 57) : ∀ j, j ≤ n → min (mVal f s j) 100 = pVal f s j
  | 0, _ => rfl
  | j + 1, hj => by
    have ih := mVal_p hby h j (by omega)
    have hd := h j (by omega)
    have e : (f (s + j)).toNatClampNeg = zu (f (s + j)) := by
      have := (zu_spec (hby j (by omega))).2.2.1 (by omega)
      rw [this, nI_clamp (by omega), ← this]
    simp only [mVal, pVal, e, ← ih]
    split <;> omega
