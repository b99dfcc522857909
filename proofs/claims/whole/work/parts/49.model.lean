/-! THE MODEL (2): NOW as it has it; the plain calls -/
theorem zfst_none_iff {p : Nat → Bool} {n : Nat} : zfst p n = none ↔ ∀ i, i < n → p i = false := by
  refine ⟨?_, zfst_none⟩
  induction n with
  | zero => intro _ i hi; omega
  | succ n ih =>
    intro h i hi
    simp only [zfst] at h
    cases e : zfst p n with
    | some q => rw [e] at h; cases h
    | none =>
      rw [e] at h
      by_cases q : i = n
      · subst q
        rcases Bool.eq_false_or_eq_true (p i) with z | z
        · simp [z] at h
        · exact z
      · exact ih e i (by omega)
theorem zfst_spec {p : Nat → Bool} {n r : Nat} (h : zfst p n = some r) : r < n ∧ p r = true ∧ ∀ i, i < r → p i = false := by
  induction n with
  | zero => cases h
  | succ n ih =>
    simp only [zfst] at h
    cases e : zfst p n with
    | some q =>
      rw [e] at h
      cases h
      obtain ⟨a, b, c⟩ := ih e
      exact ⟨by omega, b, c⟩
    | none =>
      rw [e] at h
      rcases Bool.eq_false_or_eq_true (p n) with z | z
      · simp [z] at h
        subst h
        exact ⟨Nat.lt_succ_self _, z, zfst_none_iff.mp e⟩
      · simp [z] at h
theorem zcnt_sum (p : Nat → Bool) (n : Nat) : zcnt p n = zsum (fun i => if p i then 1 else 0) n := by
  induction n with
  | zero => rfl
  | succ n ih => rw [zcnt, zsum, ih]
theorem zsum_add (a b : Nat → Nat) (n : Nat) : zsum (fun i => a i + b i) n = zsum a n + zsum b n := by
  induction n with
  | zero => rfl
  | succ n ih => simp only [zsum, ih]; omega
theorem zsum_zero (n : Nat) : zsum (fun _ => 0) n = 0 := by
  induction n with
  | zero => rfl
  | succ n ih => simp only [zsum, ih]
theorem zsum_swap (a : Nat → Nat → Nat) (m n : Nat) : zsum (fun i => zsum (a i) m) n = zsum (fun j => zsum (fun i => a i j) n) m := by
  induction n with
  | zero => simp only [zsum, zsum_zero]
  | succ n ih => simp only [zsum, ih, zsum_add]
/-- of one kind at most -/
theorem zcnt_one {p : Nat → Bool} {n : Nat} (hu : ∀ i j, i < n → j < n → p i = true → p j = true → i = j) : zcnt p n = (zfst p n).elim 0 (fun _ => 1) := by
  induction n with
  | zero => rfl
  | succ n ih =>
    have ih := ih (fun i j hi hj => hu i j (by omega) (by omega))
    simp only [zcnt, zfst]
    cases e : zfst p n with
    | none =>
      rw [e] at ih
      rw [ih]
      rcases Bool.eq_false_or_eq_true (p n) with z | z <;> simp [z]
    | some q =>
      rw [e] at ih
      obtain ⟨a, b, -⟩ := zfst_spec e
      have z : p n = false := by
        rcases Bool.eq_false_or_eq_true (p n) with z | z
        · have := hu q n (by omega) (by omega) b z
          omega
        · exact z
      rw [ih, z]; simp
theorem zcnt_3 {t : Nat → Nat} {n : Nat} (h : ∀ i, i < n → t i ≤ 3) : zcnt (fun i => decide (t i ≠ 0)) n = zcnt (fun i => decide (t i = 0 + 1)) n + zcnt (fun i => decide (t i = 1 + 1)) n + zcnt (fun i => decide (t i = 2 + 1)) n := by
  induction n with
  | zero => rfl
  | succ n ih =>
    have h1 := h n (by omega)
    simp only [zcnt, ih (fun i hi => h i (by omega)), decide_eq_true_eq]
    rcases (show t n = 0 ∨ t n = 1 ∨ t n = 2 ∨ t n = 3 by omega) with q | q | q | q <;> simp [q] <;> omega
theorem mNow.at {f : Nat → Int32} {T : zT} (h : mNow f 0 T) {g b : Nat} (hg : g < 4) (hb : b < 3) : f (3 * g + b) = oI (zfst (fun r => decide (T.1 r g = b + 1)) 6) := by
  have := h.1 g b hg hb
  rwa [Nat.zero_add] at this
theorem mNow.heard {f : Nat → Int32} {T : zT} (h : mNow f 0 T) {g : Nat} (hg : g < 4) : f (13 + g) = heardI T g := h.2.2 g hg
theorem mNow.bell {f : Nat → Int32} {P : zP} {T : zT} (okt : okT P T) (h : mNow f 0 T) {r g b : Nat} (hr : r < 6) (hg : g < 4) (hb : b < 3) : f (3 * g + b) = nI r ↔ T.1 r g = b + 1 := by
  rw [h.at hg hb]
  constructor
  · intro q
    cases e : zfst (fun r => decide (T.1 r g = b + 1)) 6 with
    | none => rw [e] at q; exact absurd q.symm (nI_ne9 (by omega))
    | some k =>
      rw [e] at q
      obtain ⟨a, c, -⟩ := zfst_spec e
      have := (nI_eq (by omega) (by omega)).mp q
      subst this
      exact of_decide_eq_true c
  · intro q
    rw [zfst_some (p := fun r => decide (T.1 r g = b + 1)) hr (decide_eq_true q) (fun i hi => decide_eq_false (fun z => by
      have := okt.2.1 i r g (by omega) hr hg (by omega) (z.trans q.symm)
      omega))]
    rfl
theorem mNow.none {f : Nat → Int32} {T : zT} (h : mNow f 0 T) {g b : Nat} (hg : g < 4) (hb : b < 3) : f (3 * g + b) = -9 ↔ ∀ r, r < 6 → T.1 r g ≠ b + 1 := by
  rw [h.at hg hb]
  constructor
  · intro q r hr z
    cases e : zfst (fun r => decide (T.1 r g = b + 1)) 6 with
    | none =>
      have := zfst_none_iff.mp e r hr
      exact of_decide_eq_false this z
    | some k =>
      rw [e] at q
      obtain ⟨a, -⟩ := zfst_spec e
      exact absurd q (nI_ne9 (by omega))
  · intro q
    rw [zfst_none (fun i hi => decide_eq_false (q i hi))]
    rfl
theorem mNow.bfe {f : Nat → Int32} {P : zP} {T : zT} (okp : okP P) (okt : okT P T) (h : mNow f 0 T) {r g : Nat} (hr : r < 6) (hg : g < 4) : bF f (nI r) g 3 = if T.1 r g = 0 then -9 else nI (T.1 r g - 1) := by
  have h3 := okt.le okp hr hg
  have e0 := h.bell okt hr hg (b := 0) (by decide)
  have e1 := h.bell okt hr hg (b := 1) (by decide)
  have e2 := h.bell okt hr hg (b := 2) (by decide)
  simp only [bF, e0, e1, e2]
  rcases (show T.1 r g = 0 ∨ T.1 r g = 1 ∨ T.1 r g = 2 ∨ T.1 r g = 3 by omega) with q | q | q | q <;> simp [q]
theorem mNow.tm {f : Nat → Int32} {P : zP} {T : zT} (okp : okP P) (okt : okT P T) (h : mNow f 0 T) {r : Nat} (hr : r < 6) : mTm f (nI r) 4 = tN T r :=
  zcnt_congr (fun g hg => decide_eq_decide.mpr (by
    rw [h.bfe okp okt hr hg]
    by_cases q : T.1 r g = 0
    · simp [q]
    · rw [if_neg q]
      have := okt.le okp hr hg
      exact ⟨fun _ => q, fun _ => nI_ne9 (by omega)⟩))
theorem zpop_tIn (T : zT) (g : Nat) : zpop (tIn T g) = zcnt (fun r => decide (T.1 r g ≠ 0)) 6 :=
  zcnt_congr (fun r hr => by
    show (zbits _ 6).testBit r = _
    rw [zbits_bit, decide_eq_true hr, Bool.true_and])
theorem mNow.inr {f : Nat → Int32} {P : zP} {T : zT} (okp : okP P) (okt : okT P T) (h : mNow f 0 T) {g : Nat} (hg : g < 4) : mIn f g 3 = zpop (tIn T g) := by
  have key : ∀ b, b < 3 → (if f (3 * g + b) ≠ -9 then 1 else 0) = zcnt (fun r => decide (T.1 r g = b + 1)) 6 := by
    intro b hb
    rw [zcnt_one (fun i j hi hj a c => by
      have a := of_decide_eq_true a
      have c := of_decide_eq_true c
      exact okt.2.1 i j g hi hj hg (by omega) (a.trans c.symm))]
    cases q : zfst (fun r => decide (T.1 r g = b + 1)) 6 with
    | none =>
      rw [if_neg (by rw [h.at hg hb, q]; exact fun z => z rfl)]; rfl
    | some i =>
      rw [if_pos]
      · rfl
      · intro z
        rw [zfst_none (fun i hi => decide_eq_false ((h.none hg hb).mp z i hi))] at q
        cases q
  rw [zpop_tIn, zcnt_3 (fun i hi => okt.le okp hi hg), ← key 0 (by decide), ← key 1 (by decide), ← key 2 (by decide)]
  simp only [mIn, zcnt, decide_eq_true_eq, Nat.zero_add]
theorem mNow.all {f : Nat → Int32} {P : zP} {T : zT} (okp : okP P) (okt : okT P T) (h : mNow f 0 T) : mAll f = tAll T := by
  unfold mAll tAll
  rw [zsum_congr (q := fun g => zsum (fun r => if decide (T.1 r g ≠ 0) = true then 1 else 0) 6) (fun g hg => by rw [h.inr okp okt hg, zpop_tIn, zcnt_sum]), zsum_swap]
  exact zsum_congr (fun r _ => by rw [tN, zcnt_sum])
theorem mNow.wk {f : Nat → Int32} {P : zP} {T : zT} (okp : okP P) (okt : okT P T) (h : mNow f 0 T) (w : Nat) : mWk P f w (pR P) = tWalk P T w :=
  zsum_congr (fun r hr => by
    have := okp.2.1
    rw [h.tm okp okt (by omega), Nat.mul_comm 2])
section
variable {K : zK} {l : Launch} {n p q r g : Nat} {h h1 : zH} {x y z : Int32} {G : zS} {P : zP} {f : Nat → Int32} {T : zT}
theorem r_X6_ringer (hM : mRel h G) (ok : okS G) : zRet K l 2 mX6_ringer [.ref 34, .int x, .int y] 59 h (some (.int (sRinger G x y))) h := by
  refine zRet.of (by decide) (Nat.le_of_ble_eq_true rfl) (fun Q hQ => ?_)
  obtain ⟨⟨at_, st, so, va, fa, to, mo, wa, fe, ev⟩, f, kf, h1, ⟨tx, hx, htx⟩, hP, h46, hN, h47, hkf, hI, hRm⟩ := id hM
  have hc : mCore h (gP G) f := ⟨⟨_, _, _, h1⟩, hP, h46⟩
  have h1 : h 34 = .inr _ := h1
  obtain ⟨⟨f1, a1, b1⟩, ⟨f2, a2, b2⟩, ⟨f3, a3, b3⟩, ⟨f4, a4, b4⟩, ⟨f5, a5, b5⟩, ⟨f6, a6, b6⟩, ⟨f7, a7, b7⟩, ⟨f8, a8⟩, ⟨f9, a9, b9⟩, ⟨f10, a10, b10⟩⟩ := id hP
  have okp := ok.1
  have okt := ok.2.1
  have kH := okp.1
  have kR := okp.2.1
  unfold sRinger at hQ
  refine kX6_ringer_0 ?_
  refine zb_go (zg_aload_n rfl) rfl ?_
  refine zb_go (zg_iload_n rfl) rfl ?_
  refine zb_callv (r_X6_isRinger hc okp) lX6_153 (by repeat (first | assumption | exact z_up_self _ _ _ | refine (z_up_ne (by first | decide | omega)).trans ?_)) rfl rfl (by first | decide | assumption | omega) (by first | decide | omega) rfl (Nat.le_of_ble_eq_true rfl) rfl ?_
  refine zb_br (zg_if_ne (tgt := 10) (by decide)) rfl (fun c => ?_) (fun c => ?_)
  · have c := zb_n.mp c
    rw [if_pos c] at hQ
    obtain ⟨r, hr, rfl⟩ := z_isIx (by omega) c
    rw [nI_clamp (by omega)] at hQ
    have i12 : zIx (nI r) 12 r := zIx.nI (by omega) (by decide)
    refine kX6_ringer_10 ?_
    refine zb_go (zg_iload_n rfl) rfl ?_
    rcases z_swi y 4 (by decide) with ⟨k, hk, rfl⟩ | ho
    · rcases (show k = 0 ∨ k = 1 ∨ k = 2 ∨ k = 3 ∨ k = 4 by omega) with rfl | rfl | rfl | rfl | rfl
      · rw [if_pos (by decide)] at hQ
        refine zb_end (len := 33) (zg_tableIn 33 44 (by decide) (by decide) (by rfl) (by decide) ?_) rfl
        refine kX6_ringer_44 ?_
        refine zb_go (zg_aload_n rfl) rfl ?_
        refine zb_go (zg_getfield fX6_23 (by first | decide | assumption | omega) (by repeat (first | assumption | exact z_up_self _ _ _ | refine (z_up_ne (by first | decide | omega)).trans ?_)) (by rfl)) rfl ?_
        refine zb_go (zg_iload_n rfl) rfl ?_
        refine zb_go (zi_iaload (by first | decide | assumption | omega) (by repeat (first | assumption | exact z_up_self _ _ _ | refine (z_up_ne (by first | decide | omega)).trans ?_)) i12) rfl ?_
        refine zb_end (zg_ireturn rfl (by rfl) ?_) rfl
        rw [b4 r hr]; exact hQ
      · rw [if_neg (by decide), if_pos (by decide)] at hQ
        refine zb_end (len := 33) (zg_tableIn 40 51 (by decide) (by decide) (by rfl) (by decide) ?_) rfl
        refine kX6_ringer_51 ?_
        refine zb_go (zg_aload_n rfl) rfl ?_
        refine zb_go (zg_getfield fX6_26 (by first | decide | assumption | omega) (by repeat (first | assumption | exact z_up_self _ _ _ | refine (z_up_ne (by first | decide | omega)).trans ?_)) (by rfl)) rfl ?_
        refine zb_go (zg_iload_n rfl) rfl ?_
        refine zb_go (zi_iaload (by first | decide | assumption | omega) (by repeat (first | assumption | exact z_up_self _ _ _ | refine (z_up_ne (by first | decide | omega)).trans ?_)) i12) rfl ?_
        refine zb_end (zg_ireturn rfl (by rfl) ?_) rfl
        rw [b5 r hr]; exact hQ
      · rw [if_neg (by decide), if_neg (by decide), if_pos (by decide)] at hQ
        refine zb_end (len := 33) (zg_tableIn 47 58 (by decide) (by decide) (by rfl) (by decide) ?_) rfl
        refine kX6_ringer_58 ?_
        refine zb_go (zg_aload_n rfl) rfl ?_
        refine zb_go (zg_getfield fX6_29 (by first | decide | assumption | omega) (by repeat (first | assumption | exact z_up_self _ _ _ | refine (z_up_ne (by first | decide | omega)).trans ?_)) (by rfl)) rfl ?_
        refine zb_go (zg_iload_n rfl) rfl ?_
        refine zb_go (zi_iaload (by first | decide | assumption | omega) (by repeat (first | assumption | exact z_up_self _ _ _ | refine (z_up_ne (by first | decide | omega)).trans ?_)) i12) rfl ?_
        refine zb_end (zg_ireturn rfl (by rfl) ?_) rfl
        rw [b6 r hr]; exact hQ
      · rw [if_neg (by decide), if_neg (by decide), if_neg (by decide), if_pos (by decide)] at hQ
        refine zb_end (len := 33) (zg_tableIn 54 65 (by decide) (by decide) (by rfl) (by decide) ?_) rfl
        refine kX6_ringer_65 ?_
        refine zb_go (zg_aload_n rfl) rfl ?_
        refine zb_go (zg_getfield fX6_32 (by first | decide | assumption | omega) (by repeat (first | assumption | exact z_up_self _ _ _ | refine (z_up_ne (by first | decide | omega)).trans ?_)) (by rfl)) rfl ?_
        refine zb_go (zg_iload_n rfl) rfl ?_
        refine zb_go (zi_iaload (by first | decide | assumption | omega) (by repeat (first | assumption | exact z_up_self _ _ _ | refine (z_up_ne (by first | decide | omega)).trans ?_)) i12) rfl ?_
        refine zb_end (zg_ireturn rfl (by rfl) ?_) rfl
        rw [b7 r hr]; exact hQ
      · rw [if_neg (by decide), if_neg (by decide), if_neg (by decide), if_neg (by decide), if_pos (by decide)] at hQ
        refine zb_end (len := 33) (zg_tableIn 61 72 (by decide) (by decide) (by rfl) (by decide) ?_) rfl
        refine kX6_ringer_72 ?_
        refine zb_go (zg_aload_n rfl) rfl ?_
        refine zb_go (zg_iload_n rfl) rfl ?_
        refine zb_callv (r_X6_timesOf hc okp) lX6_147 (by repeat (first | assumption | exact z_up_self _ _ _ | refine (z_up_ne (by first | decide | omega)).trans ?_)) rfl rfl (by first | decide | assumption | omega) (by first | decide | omega) rfl (Nat.le_of_ble_eq_true rfl) rfl ?_
        refine zb_end (zg_ireturn rfl (by rfl) ?_) rfl
        rw [hN.tm okp okt (by omega)]; exact hQ
    · rw [if_neg (show ¬ y = 0 from z_out (k := 0) ho (by decide) (by decide)), if_neg (show ¬ y = 1 from z_out (k := 1) ho (by decide) (by decide)), if_neg (show ¬ y = 2 from z_out (k := 2) ho (by decide) (by decide)), if_neg (show ¬ y = 3 from z_out (k := 3) ho (by decide) (by decide)), if_neg (show ¬ y = 4 from z_out (k := 4) ho (by decide) (by decide))] at hQ
      refine zb_end (len := 33) (zg_tableOut 78 ho (by decide) ?_) rfl
      refine kX6_ringer_78 ?_
      refine zb_go (zg_iconst (-1) (by decide)) rfl ?_
      refine zb_end (zg_ireturn rfl (by rfl) ?_) rfl
      exact hQ
  · rw [if_neg (zb_0.mp c)] at hQ
    refine zb_go (zg_iconst (-1) (by decide)) rfl ?_
    refine zb_end (zg_ireturn rfl (by rfl) ?_) rfl
    exact hQ
theorem z_ix13 {g : Nat} (hg : g < 4) : zIx (13 + nI g) 51 (13 + g) := by
  rw [show (13 : Int32) = nI 13 from rfl, nI_add]
  exact zIx.nI (by omega) (by decide)
theorem r_X6_hour (hM : mRel h G) (ok : okS G) : zRet K l 2 mX6_hour [.ref 34, .int x, .int y] 59 h (some (.int (sHour G x y))) h := by
  refine zRet.of (by decide) (Nat.le_of_ble_eq_true rfl) (fun Q hQ => ?_)
  obtain ⟨⟨at_, st, so, va, fa, to, mo, wa, fe, ev⟩, f, kf, h1, ⟨tx, hx, htx⟩, hP, h46, hN, h47, hkf, hI, hRm⟩ := id hM
  have hc : mCore h (gP G) f := ⟨⟨_, _, _, h1⟩, hP, h46⟩
  have h1 : h 34 = .inr _ := h1
  obtain ⟨⟨f1, a1, b1⟩, ⟨f2, a2, b2⟩, ⟨f3, a3, b3⟩, ⟨f4, a4, b4⟩, ⟨f5, a5, b5⟩, ⟨f6, a6, b6⟩, ⟨f7, a7, b7⟩, ⟨f8, a8⟩, ⟨f9, a9, b9⟩, ⟨f10, a10, b10⟩⟩ := id hP
  have okp := ok.1
  have okt := ok.2.1
  have kH := okp.1
  have kR := okp.2.1
  unfold sHour at hQ
  refine kX6_hour_0 ?_
  refine zb_go (zg_aload_n rfl) rfl ?_
  refine zb_go (zg_iload_n rfl) rfl ?_
  refine zb_callv (r_X6_isHour hc okp) lX6_137 (by repeat (first | assumption | exact z_up_self _ _ _ | refine (z_up_ne (by first | decide | omega)).trans ?_)) rfl rfl (by first | decide | assumption | omega) (by first | decide | omega) rfl (Nat.le_of_ble_eq_true rfl) rfl ?_
  refine zb_br (zg_if_eq (tgt := 17) (by decide)) rfl (fun c => ?_) (fun c => ?_)
  · rw [if_neg (zb_0.mp c)] at hQ
    refine kX6_hour_17 ?_
    refine zb_go (zg_iconst (-1) (by decide)) rfl ?_
    refine zb_end (zg_ireturn rfl (by rfl) ?_) rfl
    exact hQ
  · have c := zb_n.mp c
    rw [if_pos c] at hQ
    obtain ⟨g, hg, rfl⟩ := z_isIx (by omega) c
    rw [nI_clamp (by omega)] at hQ
    have i8 : zIx (nI g) 8 g := zIx.nI (by omega) (by decide)
    rcases z_swi y 2 (by decide) with ⟨k, hk, rfl⟩ | ho
    · rcases (show k = 0 ∨ k = 1 ∨ k = 2 by omega) with rfl | rfl | rfl
      · rw [if_pos (by decide)] at hQ
        refine zb_go (zg_iload_n rfl) rfl ?_
        refine zb_go (zg_iconst 0 (by decide)) rfl ?_
        refine zb_go (zg_iconst 2 (by decide)) rfl ?_
        refine zb_calls (r_X6_inT (by decide)) lX6_87 rfl (by first | decide | omega) rfl (Nat.le_of_ble_eq_true rfl) rfl ?_
        refine zb_br (zg_if_ne (tgt := 19) (by decide)) rfl (fun c1 => ?_) (fun c1 => ?_)
        · refine kX6_hour_19 ?_
          refine zb_go (zg_iload_n rfl) rfl ?_
          refine zb_br (zg_if_ne (tgt := 32) (by decide)) rfl (fun c2 => ?_) (fun c2 => ?_)
          · exact absurd rfl c2
          · refine zb_go (zg_aload_n rfl) rfl ?_
            refine zb_go (zg_getfield fX6_17 (by first | decide | assumption | omega) (by repeat (first | assumption | exact z_up_self _ _ _ | refine (z_up_ne (by first | decide | omega)).trans ?_)) (by rfl)) rfl ?_
            refine zb_go (zg_iload_n rfl) rfl ?_
            refine zb_go (zi_iaload (by first | decide | assumption | omega) (by repeat (first | assumption | exact z_up_self _ _ _ | refine (z_up_ne (by first | decide | omega)).trans ?_)) i8) rfl ?_
            refine zb_end (zg_goto (tgt := 61) (by decide) ?_) rfl
            refine kX6_hour_61 ?_
            refine zb_end (zg_ireturn rfl (by rfl) ?_) rfl
            rw [b2 g hg]; exact hQ
        · exact absurd c1 (by decide)
      · rw [if_neg (by decide), if_pos (by decide)] at hQ
        refine zb_go (zg_iload_n rfl) rfl ?_
        refine zb_go (zg_iconst 0 (by decide)) rfl ?_
        refine zb_go (zg_iconst 2 (by decide)) rfl ?_
        refine zb_calls (r_X6_inT (by decide)) lX6_87 rfl (by first | decide | omega) rfl (Nat.le_of_ble_eq_true rfl) rfl ?_
        refine zb_br (zg_if_ne (tgt := 19) (by decide)) rfl (fun c1 => ?_) (fun c1 => ?_)
        · refine kX6_hour_19 ?_
          refine zb_go (zg_iload_n rfl) rfl ?_
          refine zb_br (zg_if_ne (tgt := 32) (by decide)) rfl (fun c2 => ?_) (fun c2 => ?_)
          · refine kX6_hour_32 ?_
            refine zb_go (zg_iload_n rfl) rfl ?_
            refine zb_go (zg_iconst 1 (by decide)) rfl ?_
            refine zb_br (zg_icmp_ne (tgt := 52) (by decide)) rfl (fun c3 => ?_) (fun c3 => ?_)
            · exact absurd rfl c3
            · refine zb_go (zg_aload_n rfl) rfl ?_
              refine zb_go (zg_getfield fX6_17 (by first | decide | assumption | omega) (by repeat (first | assumption | exact z_up_self _ _ _ | refine (z_up_ne (by first | decide | omega)).trans ?_)) (by rfl)) rfl ?_
              refine zb_go (zg_iload_n rfl) rfl ?_
              refine zb_go (zi_iaload (by first | decide | assumption | omega) (by repeat (first | assumption | exact z_up_self _ _ _ | refine (z_up_ne (by first | decide | omega)).trans ?_)) i8) rfl ?_
              refine zb_go (zg_aload_n rfl) rfl ?_
              refine zb_go (zg_iload_n rfl) rfl ?_
              refine zb_callv (r_X6_inRota hc okp (by omega)) lX6_144 (by repeat (first | assumption | exact z_up_self _ _ _ | refine (z_up_ne (by first | decide | omega)).trans ?_)) rfl rfl (by first | decide | assumption | omega) (by first | decide | omega) rfl (Nat.le_of_ble_eq_true rfl) rfl ?_
              refine zb_go zg_isub rfl ?_
              refine zb_end (zg_goto (tgt := 61) (by decide) ?_) rfl
              refine kX6_hour_61 ?_
              refine zb_end (zg_ireturn rfl (by rfl) ?_) rfl
              rw [b2 g hg, hN.inr okp okt (by omega)]; exact hQ
          · exact absurd c2 (by decide)
        · exact absurd c1 (by decide)
      · rw [if_neg (by decide), if_neg (by decide), if_pos (by decide)] at hQ
        refine zb_go (zg_iload_n rfl) rfl ?_
        refine zb_go (zg_iconst 0 (by decide)) rfl ?_
        refine zb_go (zg_iconst 2 (by decide)) rfl ?_
        refine zb_calls (r_X6_inT (by decide)) lX6_87 rfl (by first | decide | omega) rfl (Nat.le_of_ble_eq_true rfl) rfl ?_
        refine zb_br (zg_if_ne (tgt := 19) (by decide)) rfl (fun c1 => ?_) (fun c1 => ?_)
        · refine kX6_hour_19 ?_
          refine zb_go (zg_iload_n rfl) rfl ?_
          refine zb_br (zg_if_ne (tgt := 32) (by decide)) rfl (fun c2 => ?_) (fun c2 => ?_)
          · refine kX6_hour_32 ?_
            refine zb_go (zg_iload_n rfl) rfl ?_
            refine zb_go (zg_iconst 1 (by decide)) rfl ?_
            refine zb_br (zg_icmp_ne (tgt := 52) (by decide)) rfl (fun c3 => ?_) (fun c3 => ?_)
            · refine kX6_hour_52 ?_
              refine zb_go (zg_aload_n rfl) rfl ?_
              refine zb_go (zg_getfield fX6_44 (by first | decide | assumption | omega) (by repeat (first | assumption | exact z_up_self _ _ _ | refine (z_up_ne (by first | decide | omega)).trans ?_)) (by rfl)) rfl ?_
              refine zb_go (zg_bipush 13 (by decide)) rfl ?_
              refine zb_go (zg_iload_n rfl) rfl ?_
              refine zb_go zg_iadd rfl ?_
              refine zb_go (zi_iaload (by first | decide | assumption | omega) (by repeat (first | assumption | exact z_up_self _ _ _ | refine (z_up_ne (by first | decide | omega)).trans ?_)) (z_ix13 (by omega))) rfl ?_
              refine zb_out ?_
              refine kX6_hour_61 ?_
              refine zb_end (zg_ireturn rfl (by rfl) ?_) rfl
              rw [hN.heard (by omega)]; exact hQ
            · exact absurd c3 (by decide)
          · exact absurd c2 (by decide)
        · exact absurd c1 (by decide)
    · rw [if_neg (show ¬ y = 0 from z_out (k := 0) ho (by decide) (by decide)), if_neg (show ¬ y = 1 from z_out (k := 1) ho (by decide) (by decide)), if_neg (show ¬ y = 2 from z_out (k := 2) ho (by decide) (by decide))] at hQ
      refine zb_go (zg_iload_n rfl) rfl ?_
      refine zb_go (zg_iconst 0 (by decide)) rfl ?_
      refine zb_go (zg_iconst 2 (by decide)) rfl ?_
      refine zb_calls (r_X6_inF (z_out_le (N := 2) (by decide) ho)) lX6_87 rfl (by first | decide | omega) rfl (Nat.le_of_ble_eq_true rfl) rfl ?_
      refine zb_br (zg_if_ne (tgt := 19) (by decide)) rfl (fun c1 => ?_) (fun c1 => ?_)
      · exact absurd rfl c1
      · refine zb_out ?_
        refine kX6_hour_17 ?_
        refine zb_go (zg_iconst (-1) (by decide)) rfl ?_
        refine zb_end (zg_ireturn rfl (by rfl) ?_) rfl
        exact hQ
theorem r_X6_rings (hM : mRel h G) (ok : okS G) : zRet K l 3 mX6_rings [.ref 34, .int y, .int z] 59 h (some (.int (sRings G y z))) h := by
  refine zRet.of (by decide) (Nat.le_of_ble_eq_true rfl) (fun Q hQ => ?_)
  obtain ⟨⟨at_, st, so, va, fa, to, mo, wa, fe, ev⟩, f, kf, h1, ⟨tx, hx, htx⟩, hP, h46, hN, h47, hkf, hI, hRm⟩ := id hM
  have hc : mCore h (gP G) f := ⟨⟨_, _, _, h1⟩, hP, h46⟩
  have h1 : h 34 = .inr _ := h1
  obtain ⟨⟨f1, a1, b1⟩, ⟨f2, a2, b2⟩, ⟨f3, a3, b3⟩, ⟨f4, a4, b4⟩, ⟨f5, a5, b5⟩, ⟨f6, a6, b6⟩, ⟨f7, a7, b7⟩, ⟨f8, a8⟩, ⟨f9, a9, b9⟩, ⟨f10, a10, b10⟩⟩ := id hP
  have okp := ok.1
  have okt := ok.2.1
  have kH := okp.1
  have kR := okp.2.1
  unfold sRings at hQ
  refine kX6_rings_0 ?_
  refine zb_go (zg_aload_n rfl) rfl ?_
  refine zb_go (zg_iload_n rfl) rfl ?_
  refine zb_go (zg_iload_n rfl) rfl ?_
  refine zb_callv (r_X6_isWanted hc okp) lX6_160 (by repeat (first | assumption | exact z_up_self _ _ _ | refine (z_up_ne (by first | decide | omega)).trans ?_)) rfl rfl (by first | decide | assumption | omega) (by first | decide | omega) rfl (Nat.le_of_ble_eq_true rfl) rfl ?_
  refine zb_br (zg_if_eq (tgt := 22) (by decide)) rfl (fun c => ?_) (fun c => ?_)
  · have c' := zb_0.mp c
    rw [zite_f (show ¬ iB G y z from c')] at hQ
    refine kX6_rings_22 ?_
    refine zb_go (zg_iconst (-1) (by decide)) rfl ?_
    refine zb_out ?_
    refine kX6_rings_23 ?_
    refine zb_end (zg_ireturn rfl (by rfl) ?_) rfl
    exact hQ
  · have c' := zb_n.mp c
    have c : iB G y z := c'
    rw [zite_t c] at hQ
    obtain ⟨g, b, hg, hb, rfl, rfl, hg4, hb3⟩ := iB_of okp c
    rw [nI_clamp (by omega), nI_clamp (by omega), ← hN.at hg4 hb3] at hQ
    refine zb_go (zg_aload_n rfl) rfl ?_
    refine zb_go (zg_getfield fX6_44 (by first | decide | assumption | omega) (by repeat (first | assumption | exact z_up_self _ _ _ | refine (z_up_ne (by first | decide | omega)).trans ?_)) (by rfl)) rfl ?_
    refine zb_go (zg_iconst 3 (by decide)) rfl ?_
    refine zb_go (zg_iload_n rfl) rfl ?_
    refine zb_go zg_imul rfl ?_
    refine zb_go (zg_iload_n rfl) rfl ?_
    refine zb_go zg_iadd rfl ?_
    refine zb_go (zi_iaload (by first | decide | assumption | omega) (by repeat (first | assumption | exact z_up_self _ _ _ | refine (z_up_ne (by first | decide | omega)).trans ?_)) (z_ix3 hg4 hb3)) rfl ?_
    refine zb_end (zg_goto (tgt := 23) (by decide) ?_) rfl
    refine kX6_rings_23 ?_
    refine zb_end (zg_ireturn rfl (by rfl) ?_) rfl
    exact hQ
theorem r_X6_now (hM : mRel h G) (ok : okS G) : zRet K l 3 mX6_now [.ref 34, .int x] 59 h (some (.int (sNow G x))) h := by
  refine zRet.of (by decide) (Nat.le_of_ble_eq_true rfl) (fun Q hQ => ?_)
  obtain ⟨⟨at_, st, so, va, fa, to, mo, wa, fe, ev⟩, f, kf, h1, ⟨tx, hx, htx⟩, hP, h46, hN, h47, hkf, hI, hRm⟩ := id hM
  have hc : mCore h (gP G) f := ⟨⟨_, _, _, h1⟩, hP, h46⟩
  have h1 : h 34 = .inr _ := h1
  obtain ⟨⟨f1, a1, b1⟩, ⟨f2, a2, b2⟩, ⟨f3, a3, b3⟩, ⟨f4, a4, b4⟩, ⟨f5, a5, b5⟩, ⟨f6, a6, b6⟩, ⟨f7, a7, b7⟩, ⟨f8, a8⟩, ⟨f9, a9, b9⟩, ⟨f10, a10, b10⟩⟩ := id hP
  have okp := ok.1
  have okt := ok.2.1
  have kH := okp.1
  have kR := okp.2.1
  unfold sNow at hQ
  have kpl := okt.2.2.2.2.1
  have e12 : f 12 = nI (gT G).2.1 := hN.2.1
  have i12 : zIx 12 51 12 := zIx.nI (k := 12) (by decide) (by decide)
  refine kX6_now_0 ?_
  refine zb_go (zg_iload_n rfl) rfl ?_
  rcases z_swi x 3 (by decide) with ⟨k, hk, rfl⟩ | ho
  · rcases (show k = 0 ∨ k = 1 ∨ k = 2 ∨ k = 3 by omega) with rfl | rfl | rfl | rfl
    · rw [if_pos (by decide)] at hQ
      rw [← hN.all okp okt] at hQ
      refine zb_end (len := 31) (zg_tableIn 31 32 (by decide) (by decide) (by rfl) (by decide) ?_) rfl
      refine kX6_now_32 ?_
      refine zb_go (zg_aload_n rfl) rfl ?_
      refine zb_callv (r_X6_allWanted hc okp) lX6_173 (by repeat (first | assumption | exact z_up_self _ _ _ | refine (z_up_ne (by first | decide | omega)).trans ?_)) rfl rfl (by first | decide | assumption | omega) (by first | decide | omega) rfl (Nat.le_of_ble_eq_true rfl) rfl ?_
      refine zb_go (zg_aload_n rfl) rfl ?_
      refine zb_callv (r_X6_allInRota hc okp) lX6_166 (by repeat (first | assumption | exact z_up_self _ _ _ | refine (z_up_ne (by first | decide | omega)).trans ?_)) rfl rfl (by first | decide | assumption | omega) (by first | decide | omega) rfl (Nat.le_of_ble_eq_true rfl) rfl ?_
      refine zb_go zg_isub rfl ?_
      refine zb_end (zg_ireturn rfl (by rfl) ?_) rfl
      exact hQ
    · rw [if_neg (by decide), if_pos (by decide)] at hQ
      rw [← hN.wk okp okt] at hQ
      refine zb_end (len := 31) (zg_tableIn 41 42 (by decide) (by decide) (by rfl) (by decide) ?_) rfl
      refine kX6_now_42 ?_
      refine zb_go (zg_aload_n rfl) rfl ?_
      refine zb_go (zg_aload_n rfl) rfl ?_
      refine zb_go (zg_getfield fX6_44 (by first | decide | assumption | omega) (by repeat (first | assumption | exact z_up_self _ _ _ | refine (z_up_ne (by first | decide | omega)).trans ?_)) (by rfl)) rfl ?_
      refine zb_go (zg_bipush 12 (by decide)) rfl ?_
      refine zb_go (zi_iaload (by first | decide | assumption | omega) (by repeat (first | assumption | exact z_up_self _ _ _ | refine (z_up_ne (by first | decide | omega)).trans ?_)) i12) rfl ?_
      rw [e12]
      refine zb_callv (r_X6_walkTo hc okp (by omega)) lX6_176 (by repeat (first | assumption | exact z_up_self _ _ _ | refine (z_up_ne (by first | decide | omega)).trans ?_)) rfl rfl (by first | decide | assumption | omega) (by first | decide | omega) rfl (Nat.le_of_ble_eq_true rfl) rfl ?_
      refine zb_end (zg_ireturn rfl (by rfl) ?_) rfl
      exact hQ
    · rw [if_neg (by decide), if_neg (by decide), if_pos (by decide)] at hQ
      rw [← hN.all okp okt] at hQ
      refine zb_end (len := 31) (zg_tableIn 53 54 (by decide) (by decide) (by rfl) (by decide) ?_) rfl
      refine kX6_now_54 ?_
      refine zb_go (zg_aload_n rfl) rfl ?_
      refine zb_callv (r_X6_allInRota hc okp) lX6_166 (by repeat (first | assumption | exact z_up_self _ _ _ | refine (z_up_ne (by first | decide | omega)).trans ?_)) rfl rfl (by first | decide | assumption | omega) (by first | decide | omega) rfl (Nat.le_of_ble_eq_true rfl) rfl ?_
      refine zb_end (zg_ireturn rfl (by rfl) ?_) rfl
      exact hQ
    · rw [if_neg (by decide), if_neg (by decide), if_neg (by decide), if_pos (by decide)] at hQ
      refine zb_end (len := 31) (zg_tableIn 58 59 (by decide) (by decide) (by rfl) (by decide) ?_) rfl
      refine kX6_now_59 ?_
      refine zb_go (zg_aload_n rfl) rfl ?_
      refine zb_go (zg_getfield fX6_44 (by first | decide | assumption | omega) (by repeat (first | assumption | exact z_up_self _ _ _ | refine (z_up_ne (by first | decide | omega)).trans ?_)) (by rfl)) rfl ?_
      refine zb_go (zg_bipush 12 (by decide)) rfl ?_
      refine zb_go (zi_iaload (by first | decide | assumption | omega) (by repeat (first | assumption | exact z_up_self _ _ _ | refine (z_up_ne (by first | decide | omega)).trans ?_)) i12) rfl ?_
      refine zb_end (zg_ireturn rfl (by rfl) ?_) rfl
      rw [e12]; exact hQ
  · rw [if_neg (show ¬ x = 0 from z_out (k := 0) ho (by decide) (by decide)), if_neg (show ¬ x = 1 from z_out (k := 1) ho (by decide) (by decide)), if_neg (show ¬ x = 2 from z_out (k := 2) ho (by decide) (by decide)), if_neg (show ¬ x = 3 from z_out (k := 3) ho (by decide) (by decide))] at hQ
    refine zb_end (len := 31) (zg_tableOut 67 ho (by decide) ?_) rfl
    refine kX6_now_67 ?_
    refine zb_go (zg_iconst (-1) (by decide)) rfl ?_
    refine zb_end (zg_ireturn rfl (by rfl) ?_) rfl
    exact hQ
theorem r_X6_count (hM : mRel h G) (ok : okS G) : zRet K l 0 mX6_count [.ref 34, .int x] 59 h (some (.int (sCount G x))) h := by
  refine zRet.of (by decide) (Nat.le_of_ble_eq_true rfl) (fun Q hQ => ?_)
  obtain ⟨⟨at_, st, so, va, fa, to, mo, wa, fe, ev⟩, f, kf, h1, ⟨tx, hx, htx⟩, hP, h46, hN, h47, hkf, hI, hRm⟩ := id hM
  have hc : mCore h (gP G) f := ⟨⟨_, _, _, h1⟩, hP, h46⟩
  have h1 : h 34 = .inr _ := h1
  obtain ⟨⟨f1, a1, b1⟩, ⟨f2, a2, b2⟩, ⟨f3, a3, b3⟩, ⟨f4, a4, b4⟩, ⟨f5, a5, b5⟩, ⟨f6, a6, b6⟩, ⟨f7, a7, b7⟩, ⟨f8, a8⟩, ⟨f9, a9, b9⟩, ⟨f10, a10, b10⟩⟩ := id hP
  have okp := ok.1
  have okt := ok.2.1
  have kH := okp.1
  have kR := okp.2.1
  unfold sCount at hQ
  refine kX6_count_0 ?_
  refine zb_go (zg_iload_n rfl) rfl ?_
  refine zb_br (zg_if_ne (tgt := 13) (by decide)) rfl (fun c0 => ?_) (fun c0 => ?_)
  · rw [if_neg c0] at hQ
    refine kX6_count_13 ?_
    refine zb_go (zg_iload_n rfl) rfl ?_
    refine zb_go (zg_iconst 1 (by decide)) rfl ?_
    refine zb_br (zg_icmp_ne (tgt := 27) (by decide)) rfl (fun c1 => ?_) (fun c1 => ?_)
    · rw [if_neg c1] at hQ
      refine kX6_count_27 ?_
      refine zb_go (zg_iload_n rfl) rfl ?_
      refine zb_go (zg_iconst 2 (by decide)) rfl ?_
      refine zb_br (zg_icmp_ne (tgt := 41) (by decide)) rfl (fun c2 => ?_) (fun c2 => ?_)
      · rw [if_neg c2] at hQ
        refine kX6_count_41 ?_
        refine zb_go (zg_iload_n rfl) rfl ?_
        refine zb_go (zg_iconst 3 (by decide)) rfl ?_
        refine zb_br (zg_icmp_ne (tgt := 55) (by decide)) rfl (fun c3 => ?_) (fun c3 => ?_)
        · rw [if_neg c3] at hQ
          refine kX6_count_55 ?_
          refine zb_go (zg_iload_n rfl) rfl ?_
          refine zb_go (zg_iconst 4 (by decide)) rfl ?_
          refine zb_br (zg_icmp_ne (tgt := 67) (by decide)) rfl (fun c4 => ?_) (fun c4 => ?_)
          · rw [if_neg c4] at hQ
            refine kX6_count_67 ?_
            refine zb_go (zg_iconst (-1) (by decide)) rfl ?_
            refine zb_out ?_
            refine kX6_count_68 ?_
            refine zb_end (zg_ireturn rfl (by rfl) ?_) rfl
            exact hQ
          · rw [if_pos c4] at hQ
            refine zb_go (zg_aload_n rfl) rfl ?_
            refine zb_go (zg_getfield fX6_91 (by first | decide | assumption | omega) (by repeat (first | assumption | exact z_up_self _ _ _ | refine (z_up_ne (by first | decide | omega)).trans ?_)) (by rfl)) rfl ?_
            refine zb_end (zg_goto (tgt := 68) (by decide) ?_) rfl
            refine kX6_count_68 ?_
            refine zb_end (zg_ireturn rfl (by rfl) ?_) rfl
            exact hQ
        · rw [if_pos c3] at hQ
          refine zb_go (zg_aload_n rfl) rfl ?_
          refine zb_go (zg_getfield fX6_41 (by first | decide | assumption | omega) (by repeat (first | assumption | exact z_up_self _ _ _ | refine (z_up_ne (by first | decide | omega)).trans ?_)) (by rfl)) rfl ?_
          refine zb_go (zg_iconst 0 (by decide)) rfl ?_
          refine zb_go (zi_iaload (by first | decide | assumption | omega) (by repeat (first | assumption | exact z_up_self _ _ _ | refine (z_up_ne (by first | decide | omega)).trans ?_)) (by first | assumption | exact zIx.nI (by omega) (by decide) | exact ⟨by decide, by decide⟩ | exact zIx.nI (k := 0) (by decide) (by decide) | exact zIx.nI (k := 1) (by decide) (by decide) | exact zIx.nI (k := 2) (by decide) (by decide) | exact zIx.nI (k := 3) (by decide) (by decide))) rfl ?_
          refine zb_end (zg_goto (tgt := 68) (by decide) ?_) rfl
          refine kX6_count_68 ?_
          refine zb_end (zg_ireturn rfl (by rfl) ?_) rfl
          rw [b10]; exact hQ
      · rw [if_pos c2] at hQ
        refine zb_go (zg_aload_n rfl) rfl ?_
        refine zb_go (zg_getfield fX6_38 (by first | decide | assumption | omega) (by repeat (first | assumption | exact z_up_self _ _ _ | refine (z_up_ne (by first | decide | omega)).trans ?_)) (by rfl)) rfl ?_
        refine zb_go (zg_iconst 0 (by decide)) rfl ?_
        refine zb_go (zi_iaload (by first | decide | assumption | omega) (by repeat (first | assumption | exact z_up_self _ _ _ | refine (z_up_ne (by first | decide | omega)).trans ?_)) (by first | assumption | exact zIx.nI (by omega) (by decide) | exact ⟨by decide, by decide⟩ | exact zIx.nI (k := 0) (by decide) (by decide) | exact zIx.nI (k := 1) (by decide) (by decide) | exact zIx.nI (k := 2) (by decide) (by decide) | exact zIx.nI (k := 3) (by decide) (by decide))) rfl ?_
        refine zb_end (zg_goto (tgt := 68) (by decide) ?_) rfl
        refine kX6_count_68 ?_
        refine zb_end (zg_ireturn rfl (by rfl) ?_) rfl
        rw [b9]; exact hQ
    · rw [if_pos c1] at hQ
      refine zb_go (zg_aload_n rfl) rfl ?_
      refine zb_go (zg_getfield fX6_20 (by first | decide | assumption | omega) (by repeat (first | assumption | exact z_up_self _ _ _ | refine (z_up_ne (by first | decide | omega)).trans ?_)) (by rfl)) rfl ?_
      refine zb_go (zg_iconst 0 (by decide)) rfl ?_
      refine zb_go (zi_iaload (by first | decide | assumption | omega) (by repeat (first | assumption | exact z_up_self _ _ _ | refine (z_up_ne (by first | decide | omega)).trans ?_)) (by first | assumption | exact zIx.nI (by omega) (by decide) | exact ⟨by decide, by decide⟩ | exact zIx.nI (k := 0) (by decide) (by decide) | exact zIx.nI (k := 1) (by decide) (by decide) | exact zIx.nI (k := 2) (by decide) (by decide) | exact zIx.nI (k := 3) (by decide) (by decide))) rfl ?_
      refine zb_end (zg_goto (tgt := 68) (by decide) ?_) rfl
      refine kX6_count_68 ?_
      refine zb_end (zg_ireturn rfl (by rfl) ?_) rfl
      rw [b3]; exact hQ
  · rw [if_pos c0] at hQ
    refine zb_go (zg_aload_n rfl) rfl ?_
    refine zb_go (zg_getfield fX6_13 (by first | decide | assumption | omega) (by repeat (first | assumption | exact z_up_self _ _ _ | refine (z_up_ne (by first | decide | omega)).trans ?_)) (by rfl)) rfl ?_
    refine zb_go (zg_iconst 0 (by decide)) rfl ?_
    refine zb_go (zi_iaload (by first | decide | assumption | omega) (by repeat (first | assumption | exact z_up_self _ _ _ | refine (z_up_ne (by first | decide | omega)).trans ?_)) (by first | assumption | exact zIx.nI (by omega) (by decide) | exact ⟨by decide, by decide⟩ | exact zIx.nI (k := 0) (by decide) (by decide) | exact zIx.nI (k := 1) (by decide) (by decide) | exact zIx.nI (k := 2) (by decide) (by decide) | exact zIx.nI (k := 3) (by decide) (by decide))) rfl ?_
    refine zb_end (zg_goto (tgt := 68) (by decide) ?_) rfl
    refine kX6_count_68 ?_
    refine zb_end (zg_ireturn rfl (by rfl) ?_) rfl
    rw [b1]; exact hQ
theorem zarg_step (F : Nat → Nat) (k : Nat) : zarg F (k + 1) = if F (k + 1) < F (zarg F k) then k + 1 else zarg F k := rfl
theorem r_X6_stands (hM : mRel h G) (ok : okS G) : zRet K l 3 mX6_stands [.ref 34, .int x] 59 h (some (.int (sStands G x))) h := by
  refine zRet.of (by decide) (Nat.le_of_ble_eq_true rfl) (fun Q hQ => ?_)
  obtain ⟨⟨at_, st, so, va, fa, to, mo, wa, fe, ev⟩, f, kf, h1, ⟨tx, hx, htx⟩, hP, h46, hN, h47, hkf, hI, hRm⟩ := id hM
  have hc : mCore h (gP G) f := ⟨⟨_, _, _, h1⟩, hP, h46⟩
  have h1 : h 34 = .inr _ := h1
  obtain ⟨⟨f1, a1, b1⟩, ⟨f2, a2, b2⟩, ⟨f3, a3, b3⟩, ⟨f4, a4, b4⟩, ⟨f5, a5, b5⟩, ⟨f6, a6, b6⟩, ⟨f7, a7, b7⟩, ⟨f8, a8⟩, ⟨f9, a9, b9⟩, ⟨f10, a10, b10⟩⟩ := id hP
  have okp := ok.1
  have okt := ok.2.1
  have kH := okp.1
  have kR := okp.2.1
  unfold sStands at hQ
  have hW : ∀ w, w ≤ 60 → tWalk (gP G) (gT G) w < 2 ^ 31 := fun w hw => by have := tWalk_le (T := gT G) okp hw; omega
  have hF : ∀ k, k ≤ 60 → zRet K l 2 mX6_walkTo [.ref 34, .int (nI k)] 59 h (some (.int (nI (tWalk (gP G) (gT G) k)))) h := fun k hk => by
    have := r_X6_walkTo (K := K) (l := l) (w := k) hc okp (by omega)
    rwa [hN.wk okp okt] at this
  obtain ⟨F, eF⟩ : ∃ F, tWalk (gP G) (gT G) = F := ⟨_, rfl⟩
  rw [eF] at hQ hF hW
  by_cases hx : 0 ≤ x ∧ x ≤ 1
  · rw [zite_t hx] at hQ
    have lp : ∀ k, k ≤ 60 → zGo K l 3 mX6_stands 15 [(0, .ref 34), (1, .int x), (2, .int (nI (zarg F k))), (3, .int (nI (k + 1)))] [] 59 h 0 0 Q := by
      refine z_down 60 (fun k hk ih => ?_)
      refine kX6_stands_15 ?_
      refine zb_go (zg_iload_n rfl) rfl ?_
      refine zb_go (zg_bipush 60 (by decide)) rfl ?_
      refine zb_br (zg_icmp_gt (tgt := 46) (by decide)) rfl (fun c => ?_) (fun c => ?_)
      · have e : k = 60 := by
          rcases Nat.lt_or_ge k 60 with q | q
          · exact absurd c (nI_nlt (a := 60) (b := k + 1) (by omega) (by omega))
          · omega
        subst e
        refine kX6_stands_46 ?_
        refine zb_go (zg_iload_n rfl) rfl ?_
        refine zb_br (zg_if_ne (tgt := 54) (by decide)) rfl (fun c0 => ?_) (fun c0 => ?_)
        · rw [if_neg c0] at hQ
          refine kX6_stands_54 ?_
          refine zb_go (zg_aload_n rfl) rfl ?_
          refine zb_go (zg_iload_n rfl) rfl ?_
          refine zb_callv (hF _ (zarg_le F 60)) lX6_176 (by repeat (first | assumption | exact z_up_self _ _ _ | refine (z_up_ne (by first | decide | omega)).trans ?_)) rfl rfl (by first | decide | assumption | omega) (by first | decide | omega) rfl (Nat.le_of_ble_eq_true rfl) rfl ?_
          refine zb_out ?_
          refine kX6_stands_59 ?_
          refine zb_end (zg_ireturn rfl (by rfl) ?_) rfl
          exact hQ
        · rw [if_pos c0] at hQ
          refine zb_go (zg_iload_n rfl) rfl ?_
          refine zb_end (zg_goto (tgt := 59) (by decide) ?_) rfl
          refine kX6_stands_59 ?_
          refine zb_end (zg_ireturn rfl (by rfl) ?_) rfl
          exact hQ
      · have hk4 : k < 60 := by
          rcases Nat.lt_or_ge k 60 with q | q
          · exact q
          · exact absurd (nI_lt (a := 60) (b := k + 1) (by omega) (by omega)) c
        refine zb_go (zg_aload_n rfl) rfl ?_
        refine zb_go (zg_iload_n rfl) rfl ?_
        refine zb_callv (hF (k + 1) (by omega)) lX6_176 (by repeat (first | assumption | exact z_up_self _ _ _ | refine (z_up_ne (by first | decide | omega)).trans ?_)) rfl rfl (by first | decide | assumption | omega) (by first | decide | omega) rfl (Nat.le_of_ble_eq_true rfl) rfl ?_
        refine zb_go (zg_aload_n rfl) rfl ?_
        refine zb_go (zg_iload_n rfl) rfl ?_
        refine zb_callv (hF _ (Nat.le_trans (zarg_le F k) hk)) lX6_176 (by repeat (first | assumption | exact z_up_self _ _ _ | refine (z_up_ne (by first | decide | omega)).trans ?_)) rfl rfl (by first | decide | assumption | omega) (by first | decide | omega) rfl (Nat.le_of_ble_eq_true rfl) rfl ?_
        refine zb_br (zg_icmp_ge (tgt := 38) (by decide)) rfl (fun c0 => ?_) (fun c0 => ?_)
        · have c0 := (nI_leI (hW _ (Nat.le_trans (zarg_le F k) hk)) (hW _ (by omega))).mp c0
          have e : zarg F (k + 1) = zarg F k := by rw [zarg_step, if_neg (by omega)]
          refine kX6_stands_38 ?_
          refine zb_go (zg_iload_n rfl) rfl ?_
          refine zb_out ?_
          refine kX6_stands_39 ?_
          refine zb_go (zg_istore_n (by decide)) rfl ?_
          refine zb_go (zg_iinc 1 (by decide) rfl (by decide)) rfl ?_
          refine zb_end (zg_goto (tgt := 15) (by decide) ?_) rfl
          rw [nI_1, ← e]
          exact ih hk4
        · have c0 : F (k + 1) < F (zarg F k) := by
            rcases Nat.lt_or_ge (F (k + 1)) (F (zarg F k)) with q | q
            · exact q
            · exact absurd (nI_le q (hW _ (by omega))) c0
          have e : zarg F (k + 1) = k + 1 := by rw [zarg_step, if_pos c0]
          refine zb_go (zg_iload_n rfl) rfl ?_
          refine zb_end (zg_goto (tgt := 39) (by decide) ?_) rfl
          refine kX6_stands_39 ?_
          refine zb_go (zg_istore_n (by decide)) rfl ?_
          refine zb_go (zg_iinc 1 (by decide) rfl (by decide)) rfl ?_
          refine zb_end (zg_goto (tgt := 15) (by decide) ?_) rfl
          rw [nI_1]
          have := ih hk4
          rw [e] at this
          exact this
    refine kX6_stands_0 ?_
    refine zb_go (zg_iload_n rfl) rfl ?_
    refine zb_go (zg_iconst 0 (by decide)) rfl ?_
    refine zb_go (zg_iconst 1 (by decide)) rfl ?_
    refine zb_calls (r_X6_inT hx) lX6_87 rfl (by first | decide | omega) rfl (Nat.le_of_ble_eq_true rfl) rfl ?_
    refine zb_br (zg_if_ne (tgt := 11) (by decide)) rfl (fun c => ?_) (fun c => ?_)
    · refine kX6_stands_11 ?_
      refine zb_go (zg_iconst 0 (by decide)) rfl ?_
      refine zb_go (zg_istore_n (by decide)) rfl ?_
      refine zb_go (zg_iconst 1 (by decide)) rfl ?_
      refine zb_go (zg_istore_n (by decide)) rfl ?_
      refine zb_out ?_
      exact lp 0 (by omega)
    · exact absurd c (by decide)
  · rw [zite_f hx] at hQ
    refine kX6_stands_0 ?_
    refine zb_go (zg_iload_n rfl) rfl ?_
    refine zb_go (zg_iconst 0 (by decide)) rfl ?_
    refine zb_go (zg_iconst 1 (by decide)) rfl ?_
    refine zb_calls (r_X6_inF hx) lX6_87 rfl (by first | decide | omega) rfl (Nat.le_of_ble_eq_true rfl) rfl ?_
    refine zb_br (zg_if_ne (tgt := 11) (by decide)) rfl (fun c => ?_) (fun c => ?_)
    · exact absurd rfl c
    · refine zb_go (zg_iconst (-1) (by decide)) rfl ?_
      refine zb_end (zg_ireturn rfl (by rfl) ?_) rfl
      exact hQ
end
