/-! THE MODEL (18): parish -/
theorem mRel.par {h h1 : zH} {G : zS} {X : zX} (hM : mRel h G) (s : zPF h h1) (h34 : h1 34 = mObj (gTr G) (nI (gLen G)) X) (hP : mPar h1 (gP G)) : mRel h1 G := by
  obtain ⟨X0, f0, kf, -, ⟨tx, hx, ht⟩, -, h46, hN, h47, hkf, hI, hR⟩ := hM
  obtain ⟨⟨r1, c1⟩, ⟨r2, c2⟩, ⟨r3, c3⟩, ⟨r4, c4⟩, ⟨r5, c5⟩, ⟨r6, c6, d6⟩, ⟨r7, c7, d7⟩, ⟨r8, c8, d8⟩, ⟨r9, c9, d9⟩, ⟨r10, c10⟩, ⟨r11, c11⟩⟩ := hR
  refine ⟨X, f0, kf, h34, ⟨tx, (s 35 (by omega) (by omega)).trans hx, ht⟩, hP, (s 46 (by omega) (by omega)).trans h46, hN, (s 47 (by omega) (by omega)).trans h47, hkf, hI, ?_⟩
  exact ⟨⟨r1, (s _ (by omega) (by omega)).trans c1⟩, ⟨r2, (s _ (by omega) (by omega)).trans c2⟩, ⟨r3, (s _ (by omega) (by omega)).trans c3⟩, ⟨r4, (s _ (by omega) (by omega)).trans c4⟩, ⟨r5, (s _ (by omega) (by omega)).trans c5⟩, ⟨r6, (s _ (by omega) (by omega)).trans c6, d6⟩, ⟨r7, (s _ (by omega) (by omega)).trans c7, d7⟩, ⟨r8, (s _ (by omega) (by omega)).trans c8, d8⟩, ⟨r9, (s _ (by omega) (by omega)).trans c9, d9⟩, ⟨r10, (s _ (by omega) (by omega)).trans c10⟩, ⟨r11, (s _ (by omega) (by omega)).trans c11⟩⟩
theorem kSo_5 {f : Nat → Int32} {len i : Nat} : kSo f len i = 5 ↔ len ≤ pSk f len i := by
  unfold kSo
  by_cases q : len ≤ pSk f len i
  · rw [if_pos q]
    exact ⟨fun _ => q, fun _ => rfl⟩
  · simp only [if_neg q]
    refine ⟨fun w => ?_, fun w => absurd w q⟩
    exfalso
    split at w
    · cases ek : pKind f len (pSk f len i) with
      | none => rw [ek] at w; exact absurd w (by decide)
      | some k =>
        rw [ek] at w
        have h5 := pKind_lt ek
        have w : k = 5 := w
        omega
    · split at w
      · split at w <;> exact absurd w (by decide)
      · split at w <;> exact absurd w (by decide)
theorem mNow_new {F : Nat → Int32} {P : zP} (h1 : ∀ j, j < 17 → j ≠ 12 → F j = -9) (h2 : F 12 = nI (pTw P)) : mNow F 0 (tNew P) := by
  refine ⟨fun g b hg hb => ?_, h2, fun g hg => ?_⟩
  · rw [h1 _ (by omega) (by omega), zfst_none (fun i hi => decide_eq_false (fun q => by
      have q : 0 = b + 1 := q
      omega))]
    rfl
  · rw [h1 _ (by omega) (by omega)]
    rfl
section
variable {K : zK} {l : Launch} {n p q r g0 k s i len e lo hi tol : Nat} {h h1 g H : zH} {x y z : Int32} {G : zS} {P P0 : zP} {f : Nat → Int32} {T : zT} {tr : Int64} {ty : Int32} {X : zX} {mo wa fe ev : Int32} {tob : Nat → Bool}
/-- what was read becomes the parish -/
theorem r_X6_parishEnd {m : Nat} (hM : mRel h G) (okp0 : okP (gP G)) (okp : okP P) (hF : zPF h H) (h34 : H 34 = mObj (gTr G) (nI (gLen G)) (kX f len e (-9) (nI tol) mo wa fe ev)) (hB : mBoth H (gP G) P) (Q : zQ) (hQ : ∀ v h', (v = some (.int (nI m)) ∧ mRel h' (gNew G P) ∧ zSame 34 58 h h') → Q v 59 h') : zGo K l 5 mX6_parish 101 [(0, .ref 34), (1, .int (nI m))] [] 59 H 0 0 Q := by
  obtain ⟨X0, fn, kf, -, ⟨tx, hx, htx⟩, -, q46, hN, q47, hkf, hI, hR⟩ := id hM
  obtain ⟨⟨f1, a1, b1, c1⟩, ⟨f2, a2, b2, c2⟩, ⟨f3, a3, b3, c3⟩, ⟨f4, a4, b4, c4⟩, ⟨f5, a5, b5, c5⟩, ⟨f6, a6, b6, c6⟩, ⟨f7, a7, b7, c7⟩, ⟨f8, a8, c8⟩, ⟨f9, a9, b9, c9⟩, ⟨f10, a10, b10, c10⟩⟩ := id hB
  have h1 : H 34 = .inr _ := h34
  have h46 := (hF 46 (by omega) (by omega)).trans q46
  have h47 := (hF 47 (by omega) (by omega)).trans q47
  have kH := okp.1
  have kR := okp.2.1
  -- all of it copied
  have fin : ∀ H3 F2 F4 F5 F6 F7, H3 34 = mObj (gTr G) (nI (gLen G)) (kX f len e (-9) (nI tol) mo wa fe ev) → H3 36 = .inl (0, 2, .inl (upd f1 0 (f1 1))) → H3 37 = .inl (0, 8, .inl F2) → (∀ j, j < 4 → F2 j = f2 (4 + j)) → H3 38 = .inl (0, 2, .inl (upd f3 0 (f3 1))) → H3 39 = .inl (0, 12, .inl F4) → (∀ j, j < 6 → F4 j = f4 (6 + j)) → H3 40 = .inl (0, 12, .inl F5) → (∀ j, j < 6 → F5 j = f5 (6 + j)) → H3 41 = .inl (0, 12, .inl F6) → (∀ j, j < 6 → F6 j = f6 (6 + j)) → H3 42 = .inl (0, 12, .inl F7) → (∀ j, j < 6 → F7 j = f7 (6 + j)) → H3 43 = .inl (0, 2, .inl (upd f8 0 (f8 1))) → H3 44 = .inl (0, 2, .inl (upd f9 0 (f9 1))) → H3 45 = .inl (0, 2, .inl (upd f10 0 (f10 1))) → zPF h H3 → ∀ a2, zGo K l 5 mX6_parish 262 [(0, .ref 34), (1, .int (nI m)), (2, .int a2)] [] 59 H3 0 0 Q := by
    intro H3 F2 F4 F5 F6 F7 g34 g36 g37 e2 g38 g39 e4 g40 e5 g41 e6 g42 e7 g43 g44 g45 gF a2
    have g34' := g34
    have g1 : H3 34 = .inr _ := g34
    have g46 := (gF 46 (by omega) (by omega)).trans q46
    have g47 := (gF 47 (by omega) (by omega)).trans q47
    refine kX6_parish_262 ?_
    refine zb_go (zg_aload_n rfl) rfl ?_
    refine zb_callvx (r_X6_begin ⟨_, _, _, g34'⟩ g43 g46 g47) lX6_84 (by repeat (first | assumption | exact z_up_self _ _ _ | refine (z_up_ne (by first | decide | omega)).trans ?_)) rfl rfl (by first | decide | assumption | omega) (by first | decide | omega) rfl (Nat.le_of_ble_eq_true rfl) rfl ?_
    rintro v h' ⟨rfl, F, kf', rfl, n1, n2, n3, n4⟩
    refine zb_go (zg_aload_n rfl) rfl ?_
    refine zb_go (zg_iconst 0 (by decide)) rfl ?_
    refine zb_go (zg_putfield fX6_91 (by first | decide | assumption | omega) (by repeat (first | assumption | exact z_up_self _ _ _ | refine (z_up_ne (by first | decide | omega)).trans ?_)) (by exact Nat.le_of_ble_eq_true rfl) (by rfl) (by rfl) (by first | exact Or.inl rfl | exact Or.inr ⟨rfl, rfl⟩)) rfl ?_
    refine zb_go (zg_iload_n rfl) rfl ?_
    refine zb_end (zg_ireturn rfl (by rfl) ?_) rfl
    obtain ⟨⟨r1, d1⟩, ⟨r2, d2⟩, ⟨r3, d3⟩, ⟨r4, d4⟩, ⟨r5, d5⟩, ⟨r6, d6, z6⟩, ⟨r7, d7, z7⟩, ⟨r8, d8, z8⟩, ⟨r9, d9, z9⟩, ⟨r10, d10⟩, ⟨r11, d11⟩⟩ := hR
    have up : ∀ {j : Nat} {E A B C : va_E}, j ≠ 34 → j ≠ 46 → j ≠ 47 → H3 j = E → z_up (z_up (z_up H3 46 A) 47 B) 34 C j = E := fun h1 h2 h3 hE => (z_up_ne h1).trans ((z_up_ne h3).trans ((z_up_ne h2).trans hE))
    have sR : ∀ {j : Nat} {E A B C : va_E}, 47 < j → h j = E → z_up (z_up (z_up H3 46 A) 47 B) 34 C j = E := fun hj hE => up (by omega) (by omega) (by omega) ((gF _ (by omega) (by omega)).trans hE)
    refine hQ _ _ ⟨rfl, ?_, fun k hk => (z_up_ne (by omega)).trans ((z_up_ne (by omega)).trans ((z_up_ne (by omega)).trans (gF k (by omega) (by omega))))⟩
    refine ⟨kX f len e (-9) (nI tol) mo wa fe ev, F, kf', z_up_self _ _ _, ⟨tx, up (by decide) (by decide) (by decide) ((gF 35 (by omega) (by omega)).trans hx), fun i hi => absurd hi (Nat.not_lt_zero _)⟩, ?_, ?_, mNow_new n1 (n2.trans (by rw [pk_us]; exact c8)), ?_, ?_, fun i _ hi => absurd (show false = true from hi) (by decide), ?_⟩
    · exact ⟨⟨_, up (by decide) (by decide) (by decide) g36, pk_us.trans c1⟩, ⟨_, up (by decide) (by decide) (by decide) g37, fun i hi => (e2 i (by have hi : i < pH P := hi; omega)).trans (c2 i hi)⟩, ⟨_, up (by decide) (by decide) (by decide) g38, pk_us.trans c3⟩,
        ⟨_, up (by decide) (by decide) (by decide) g39, fun i hi => (e4 i (by have hi : i < pR P := hi; omega)).trans (c4 i hi)⟩, ⟨_, up (by decide) (by decide) (by decide) g40, fun i hi => (e5 i (by have hi : i < pR P := hi; omega)).trans (c5 i hi)⟩, ⟨_, up (by decide) (by decide) (by decide) g41, fun i hi => (e6 i (by have hi : i < pR P := hi; omega)).trans (c6 i hi)⟩, ⟨_, up (by decide) (by decide) (by decide) g42, fun i hi => (e7 i (by have hi : i < pR P := hi; omega)).trans (c7 i hi)⟩,
        ⟨_, up (by decide) (by decide) (by decide) g43⟩, ⟨_, up (by decide) (by decide) (by decide) g44, pk_us.trans c9⟩, ⟨_, up (by decide) (by decide) (by decide) g45, pk_us.trans c10⟩⟩
    · exact (z_up_ne (by decide)).trans ((z_up_ne (by decide)).trans (z_up_self _ _ _))
    · exact (z_up_ne (by decide)).trans (z_up_self _ _ _)
    · intro i hi
      show kf' i = 0
      rcases (show i = 0 ∨ i = 1 by omega) with rfl | rfl
      · exact n3
      · exact n4
    · exact ⟨⟨r1, sR (by decide) d1⟩, ⟨r2, sR (by decide) d2⟩, ⟨r3, sR (by decide) d3⟩, ⟨r4, sR (by decide) d4⟩, ⟨r5, sR (by decide) d5⟩, ⟨r6, sR (by decide) d6, z6⟩, ⟨r7, sR (by decide) d7, z7⟩, ⟨r8, sR (by decide) d8, z8⟩, ⟨r9, sR (by decide) d9, z9⟩, ⟨r10, sR (by decide) d10⟩, ⟨r11, sR (by decide) d11⟩⟩
  refine kX6_parish_101 ?_
  refine zb_go (zg_aload_n rfl) rfl ?_
  refine zb_go (zg_getfield fX6_13 (by first | decide | assumption | omega) (by repeat (first | assumption | exact z_up_self _ _ _ | refine (z_up_ne (by first | decide | omega)).trans ?_)) (by rfl)) rfl ?_
  refine zb_go (zg_iconst 0 (by decide)) rfl ?_
  refine zb_go (zg_aload_n rfl) rfl ?_
  refine zb_go (zg_getfield fX6_13 (by first | decide | assumption | omega) (by repeat (first | assumption | exact z_up_self _ _ _ | refine (z_up_ne (by first | decide | omega)).trans ?_)) (by rfl)) rfl ?_
  refine zb_go (zg_iconst 1 (by decide)) rfl ?_
  refine zb_go (zi_iaload (by first | decide | assumption | omega) (by repeat (first | assumption | exact z_up_self _ _ _ | refine (z_up_ne (by first | decide | omega)).trans ?_)) (by first | assumption | exact zIx.nI (by omega) (by decide) | exact ⟨by decide, by decide⟩ | exact zIx.nI (k := 0) (by decide) (by decide) | exact zIx.nI (k := 1) (by decide) (by decide) | exact zIx.nI (k := 2) (by decide) (by decide) | exact zIx.nI (k := 3) (by decide) (by decide))) rfl ?_
  refine zb_go (zi_iastore (by first | decide | assumption | omega) (by repeat (first | assumption | exact z_up_self _ _ _ | refine (z_up_ne (by first | decide | omega)).trans ?_)) (by first | assumption | exact zIx.nI (by omega) (by decide) | exact ⟨by decide, by decide⟩ | exact zIx.nI (k := 0) (by decide) (by decide) | exact zIx.nI (k := 1) (by decide) (by decide) | exact zIx.nI (k := 2) (by decide) (by decide) | exact zIx.nI (k := 3) (by decide) (by decide))) rfl ?_
  refine zb_go (zg_aload_n rfl) rfl ?_
  refine zb_go (zg_getfield fX6_20 (by first | decide | assumption | omega) (by repeat (first | assumption | exact z_up_self _ _ _ | refine (z_up_ne (by first | decide | omega)).trans ?_)) (by rfl)) rfl ?_
  refine zb_go (zg_iconst 0 (by decide)) rfl ?_
  refine zb_go (zg_aload_n rfl) rfl ?_
  refine zb_go (zg_getfield fX6_20 (by first | decide | assumption | omega) (by repeat (first | assumption | exact z_up_self _ _ _ | refine (z_up_ne (by first | decide | omega)).trans ?_)) (by rfl)) rfl ?_
  refine zb_go (zg_iconst 1 (by decide)) rfl ?_
  refine zb_go (zi_iaload (by first | decide | assumption | omega) (by repeat (first | assumption | exact z_up_self _ _ _ | refine (z_up_ne (by first | decide | omega)).trans ?_)) (by first | assumption | exact zIx.nI (by omega) (by decide) | exact ⟨by decide, by decide⟩ | exact zIx.nI (k := 0) (by decide) (by decide) | exact zIx.nI (k := 1) (by decide) (by decide) | exact zIx.nI (k := 2) (by decide) (by decide) | exact zIx.nI (k := 3) (by decide) (by decide))) rfl ?_
  refine zb_go (zi_iastore (by first | decide | assumption | omega) (by repeat (first | assumption | exact z_up_self _ _ _ | refine (z_up_ne (by first | decide | omega)).trans ?_)) (by first | assumption | exact zIx.nI (by omega) (by decide) | exact ⟨by decide, by decide⟩ | exact zIx.nI (k := 0) (by decide) (by decide) | exact zIx.nI (k := 1) (by decide) (by decide) | exact zIx.nI (k := 2) (by decide) (by decide) | exact zIx.nI (k := 3) (by decide) (by decide))) rfl ?_
  refine zb_go (zg_aload_n rfl) rfl ?_
  refine zb_go (zg_getfield fX6_35 (by first | decide | assumption | omega) (by repeat (first | assumption | exact z_up_self _ _ _ | refine (z_up_ne (by first | decide | omega)).trans ?_)) (by rfl)) rfl ?_
  refine zb_go (zg_iconst 0 (by decide)) rfl ?_
  refine zb_go (zg_aload_n rfl) rfl ?_
  refine zb_go (zg_getfield fX6_35 (by first | decide | assumption | omega) (by repeat (first | assumption | exact z_up_self _ _ _ | refine (z_up_ne (by first | decide | omega)).trans ?_)) (by rfl)) rfl ?_
  refine zb_go (zg_iconst 1 (by decide)) rfl ?_
  refine zb_go (zi_iaload (by first | decide | assumption | omega) (by repeat (first | assumption | exact z_up_self _ _ _ | refine (z_up_ne (by first | decide | omega)).trans ?_)) (by first | assumption | exact zIx.nI (by omega) (by decide) | exact ⟨by decide, by decide⟩ | exact zIx.nI (k := 0) (by decide) (by decide) | exact zIx.nI (k := 1) (by decide) (by decide) | exact zIx.nI (k := 2) (by decide) (by decide) | exact zIx.nI (k := 3) (by decide) (by decide))) rfl ?_
  refine zb_go (zi_iastore (by first | decide | assumption | omega) (by repeat (first | assumption | exact z_up_self _ _ _ | refine (z_up_ne (by first | decide | omega)).trans ?_)) (by first | assumption | exact zIx.nI (by omega) (by decide) | exact ⟨by decide, by decide⟩ | exact zIx.nI (k := 0) (by decide) (by decide) | exact zIx.nI (k := 1) (by decide) (by decide) | exact zIx.nI (k := 2) (by decide) (by decide) | exact zIx.nI (k := 3) (by decide) (by decide))) rfl ?_
  refine zb_go (zg_aload_n rfl) rfl ?_
  refine zb_go (zg_getfield fX6_38 (by first | decide | assumption | omega) (by repeat (first | assumption | exact z_up_self _ _ _ | refine (z_up_ne (by first | decide | omega)).trans ?_)) (by rfl)) rfl ?_
  refine zb_go (zg_iconst 0 (by decide)) rfl ?_
  refine zb_go (zg_aload_n rfl) rfl ?_
  refine zb_go (zg_getfield fX6_38 (by first | decide | assumption | omega) (by repeat (first | assumption | exact z_up_self _ _ _ | refine (z_up_ne (by first | decide | omega)).trans ?_)) (by rfl)) rfl ?_
  refine zb_go (zg_iconst 1 (by decide)) rfl ?_
  refine zb_go (zi_iaload (by first | decide | assumption | omega) (by repeat (first | assumption | exact z_up_self _ _ _ | refine (z_up_ne (by first | decide | omega)).trans ?_)) (by first | assumption | exact zIx.nI (by omega) (by decide) | exact ⟨by decide, by decide⟩ | exact zIx.nI (k := 0) (by decide) (by decide) | exact zIx.nI (k := 1) (by decide) (by decide) | exact zIx.nI (k := 2) (by decide) (by decide) | exact zIx.nI (k := 3) (by decide) (by decide))) rfl ?_
  refine zb_go (zi_iastore (by first | decide | assumption | omega) (by repeat (first | assumption | exact z_up_self _ _ _ | refine (z_up_ne (by first | decide | omega)).trans ?_)) (by first | assumption | exact zIx.nI (by omega) (by decide) | exact ⟨by decide, by decide⟩ | exact zIx.nI (k := 0) (by decide) (by decide) | exact zIx.nI (k := 1) (by decide) (by decide) | exact zIx.nI (k := 2) (by decide) (by decide) | exact zIx.nI (k := 3) (by decide) (by decide))) rfl ?_
  refine zb_go (zg_aload_n rfl) rfl ?_
  refine zb_go (zg_getfield fX6_41 (by first | decide | assumption | omega) (by repeat (first | assumption | exact z_up_self _ _ _ | refine (z_up_ne (by first | decide | omega)).trans ?_)) (by rfl)) rfl ?_
  refine zb_go (zg_iconst 0 (by decide)) rfl ?_
  refine zb_go (zg_aload_n rfl) rfl ?_
  refine zb_go (zg_getfield fX6_41 (by first | decide | assumption | omega) (by repeat (first | assumption | exact z_up_self _ _ _ | refine (z_up_ne (by first | decide | omega)).trans ?_)) (by rfl)) rfl ?_
  refine zb_go (zg_iconst 1 (by decide)) rfl ?_
  refine zb_go (zi_iaload (by first | decide | assumption | omega) (by repeat (first | assumption | exact z_up_self _ _ _ | refine (z_up_ne (by first | decide | omega)).trans ?_)) (by first | assumption | exact zIx.nI (by omega) (by decide) | exact ⟨by decide, by decide⟩ | exact zIx.nI (k := 0) (by decide) (by decide) | exact zIx.nI (k := 1) (by decide) (by decide) | exact zIx.nI (k := 2) (by decide) (by decide) | exact zIx.nI (k := 3) (by decide) (by decide))) rfl ?_
  refine zb_go (zi_iastore (by first | decide | assumption | omega) (by repeat (first | assumption | exact z_up_self _ _ _ | refine (z_up_ne (by first | decide | omega)).trans ?_)) (by first | assumption | exact zIx.nI (by omega) (by decide) | exact ⟨by decide, by decide⟩ | exact zIx.nI (k := 0) (by decide) (by decide) | exact zIx.nI (k := 1) (by decide) (by decide) | exact zIx.nI (k := 2) (by decide) (by decide) | exact zIx.nI (k := 3) (by decide) (by decide))) rfl ?_
  refine zb_go (zg_iconst 0 (by decide)) rfl ?_
  refine zb_go (zg_istore_n (by decide)) rfl ?_
  refine zb_out ?_
  obtain ⟨Hb, eHb⟩ : ∃ Hb, Hb = z_up (z_up (z_up (z_up (z_up H 36 (.inl (0, 2, .inl (upd f1 0 (f1 1))))) 38 (.inl (0, 2, .inl (upd f3 0 (f3 1))))) 43 (.inl (0, 2, .inl (upd f8 0 (f8 1))))) 44 (.inl (0, 2, .inl (upd f9 0 (f9 1))))) 45 (.inl (0, 2, .inl (upd f10 0 (f10 1)))) := ⟨_, rfl⟩
  rw [← eHb]
  have m34 : Hb 34 = mObj (gTr G) (nI (gLen G)) (kX f len e (-9) (nI tol) mo wa fe ev) := by rw [eHb]; exact (z_up_ne (by decide)).trans ((z_up_ne (by decide)).trans ((z_up_ne (by decide)).trans ((z_up_ne (by decide)).trans ((z_up_ne (by decide)).trans h34))))
  have m36 : Hb 36 = .inl (0, 2, .inl (upd f1 0 (f1 1))) := by rw [eHb]; exact (z_up_ne (by decide)).trans ((z_up_ne (by decide)).trans ((z_up_ne (by decide)).trans ((z_up_ne (by decide)).trans (z_up_self _ _ _))))
  have m38 : Hb 38 = .inl (0, 2, .inl (upd f3 0 (f3 1))) := by rw [eHb]; exact (z_up_ne (by decide)).trans ((z_up_ne (by decide)).trans ((z_up_ne (by decide)).trans (z_up_self _ _ _)))
  have m43 : Hb 43 = .inl (0, 2, .inl (upd f8 0 (f8 1))) := by rw [eHb]; exact (z_up_ne (by decide)).trans ((z_up_ne (by decide)).trans (z_up_self _ _ _))
  have m44 : Hb 44 = .inl (0, 2, .inl (upd f9 0 (f9 1))) := by rw [eHb]; exact (z_up_ne (by decide)).trans (z_up_self _ _ _)
  have m45 : Hb 45 = .inl (0, 2, .inl (upd f10 0 (f10 1))) := by rw [eHb]; exact z_up_self _ _ _
  have up : ∀ {j : Nat} {E : va_E}, j ≠ 36 → j ≠ 38 → j ≠ 43 → j ≠ 44 → j ≠ 45 → H j = E → Hb j = E := fun n1 n2 n3 n4 n5 hE => by
    rw [eHb]; exact (z_up_ne n5).trans ((z_up_ne n4).trans ((z_up_ne n3).trans ((z_up_ne n2).trans ((z_up_ne n1).trans hE))))
  have m37 := up (by decide) (by decide) (by decide) (by decide) (by decide) a2
  have m39 := up (by decide) (by decide) (by decide) (by decide) (by decide) a4
  have m40 := up (by decide) (by decide) (by decide) (by decide) (by decide) a5
  have m41 := up (by decide) (by decide) (by decide) (by decide) (by decide) a6
  have m42 := up (by decide) (by decide) (by decide) (by decide) (by decide) a7
  have mF : zPF h Hb := by
    rw [eHb]
    exact ((((hF.up (Or.inr ⟨by decide, by decide⟩)).up (Or.inr ⟨by decide, by decide⟩)).up (Or.inr ⟨by decide, by decide⟩)).up (Or.inr ⟨by decide, by decide⟩)).up (Or.inr ⟨by decide, by decide⟩)
  clear up eHb
  -- the ringers
  have lpR : ∀ k, k ≤ 6 → ∀ H3 F2 F4 F5 F6 F7, H3 37 = .inl (0, 8, .inl F2) → (∀ j, j < 4 → F2 j = f2 (4 + j)) → H3 39 = .inl (0, 12, .inl F4) → (∀ j, j < k → F4 j = f4 (6 + j)) → (∀ j, 6 ≤ j → F4 j = f4 j) → H3 40 = .inl (0, 12, .inl F5) → (∀ j, j < k → F5 j = f5 (6 + j)) → (∀ j, 6 ≤ j → F5 j = f5 j) → H3 41 = .inl (0, 12, .inl F6) → (∀ j, j < k → F6 j = f6 (6 + j)) → (∀ j, 6 ≤ j → F6 j = f6 j) → H3 42 = .inl (0, 12, .inl F7) → (∀ j, j < k → F7 j = f7 (6 + j)) → (∀ j, 6 ≤ j → F7 j = f7 j) → (∀ j, j ≠ 37 → (j < 39 ∨ 42 < j) → H3 j = Hb j) → zGo K l 5 mX6_parish 190 [(0, .ref 34), (1, .int (nI m)), (2, .int (nI k))] [] 59 H3 0 0 Q := by
    refine z_down 6 (fun k hk ih H3 F2 F4 F5 F6 F7 g37 e2 g39 e4 o4 g40 e5 o5 g41 e6 o6 g42 e7 o7 gS => ?_)
    have g34 : H3 34 = _ := (gS 34 (by omega) (by omega)).trans m34
    have g34' := g34
    have g1 : H3 34 = .inr _ := g34
    refine kX6_parish_190 ?_
    refine zb_go (zg_iload_n rfl) rfl ?_
    refine zb_go (zg_bipush 6 (by decide)) rfl ?_
    refine zb_br (zg_icmp_ge (tgt := 262) (by decide)) rfl (fun c0 => ?_) (fun c0 => ?_)
    · obtain rfl := z_is_le (by omega) hk c0
      exact fin H3 F2 F4 F5 F6 F7 g34' ((gS 36 (by omega) (by omega)).trans m36) g37 e2 ((gS 38 (by omega) (by omega)).trans m38) g39 e4 g40 e5 g41 e6 g42 e7 ((gS 43 (by omega) (by omega)).trans m43) ((gS 44 (by omega) (by omega)).trans m44) ((gS 45 (by omega) (by omega)).trans m45) (fun j j1 j2 => (gS j (by omega) (by omega)).trans (mF j j1 j2)) _
    · have hk2 := z_not_le (by omega) hk c0
      have ik : zIx (nI k) 12 k := zIx.nI (by omega) (by decide)
      have i6 : zIx (6 + nI k) 12 (6 + k) := by rw [show (6 : Int32) = nI 6 from rfl, nI_add]; exact zIx.nI (by omega) (by decide)
      have st : ∀ {F f : Nat → Int32}, (∀ j, j < k → F j = f (6 + j)) → (∀ j, 6 ≤ j → F j = f j) → (∀ j, j < k + 1 → upd F k (F (6 + k)) j = f (6 + j)) ∧ ∀ j, 6 ≤ j → upd F k (F (6 + k)) j = f j := fun h1 h2 => ⟨fun j hj => by
          by_cases w : j = k
          · rw [w, pk_us, h2 _ (by omega)]
          · rw [pk_un w, h1 j (by omega)], fun j hj => by rw [pk_un (by omega), h2 j hj]⟩
      refine zb_go (zg_aload_n rfl) rfl ?_
      refine zb_go (zg_getfield fX6_23 (by first | decide | assumption | omega) (by repeat (first | assumption | exact z_up_self _ _ _ | refine (z_up_ne (by first | decide | omega)).trans ?_)) (by rfl)) rfl ?_
      refine zb_go (zg_iload_n rfl) rfl ?_
      refine zb_go (zg_aload_n rfl) rfl ?_
      refine zb_go (zg_getfield fX6_23 (by first | decide | assumption | omega) (by repeat (first | assumption | exact z_up_self _ _ _ | refine (z_up_ne (by first | decide | omega)).trans ?_)) (by rfl)) rfl ?_
      refine zb_go (zg_bipush 6 (by decide)) rfl ?_
      refine zb_go (zg_iload_n rfl) rfl ?_
      refine zb_go zg_iadd rfl ?_
      refine zb_go (zi_iaload (by first | decide | assumption | omega) (by repeat (first | assumption | exact z_up_self _ _ _ | refine (z_up_ne (by first | decide | omega)).trans ?_)) i6) rfl ?_
      refine zb_go (zi_iastore (by first | decide | assumption | omega) (by repeat (first | assumption | exact z_up_self _ _ _ | refine (z_up_ne (by first | decide | omega)).trans ?_)) ik) rfl ?_
      refine zb_go (zg_aload_n rfl) rfl ?_
      refine zb_go (zg_getfield fX6_26 (by first | decide | assumption | omega) (by repeat (first | assumption | exact z_up_self _ _ _ | refine (z_up_ne (by first | decide | omega)).trans ?_)) (by rfl)) rfl ?_
      refine zb_go (zg_iload_n rfl) rfl ?_
      refine zb_go (zg_aload_n rfl) rfl ?_
      refine zb_go (zg_getfield fX6_26 (by first | decide | assumption | omega) (by repeat (first | assumption | exact z_up_self _ _ _ | refine (z_up_ne (by first | decide | omega)).trans ?_)) (by rfl)) rfl ?_
      refine zb_go (zg_bipush 6 (by decide)) rfl ?_
      refine zb_go (zg_iload_n rfl) rfl ?_
      refine zb_go zg_iadd rfl ?_
      refine zb_go (zi_iaload (by first | decide | assumption | omega) (by repeat (first | assumption | exact z_up_self _ _ _ | refine (z_up_ne (by first | decide | omega)).trans ?_)) i6) rfl ?_
      refine zb_go (zi_iastore (by first | decide | assumption | omega) (by repeat (first | assumption | exact z_up_self _ _ _ | refine (z_up_ne (by first | decide | omega)).trans ?_)) ik) rfl ?_
      refine zb_go (zg_aload_n rfl) rfl ?_
      refine zb_go (zg_getfield fX6_29 (by first | decide | assumption | omega) (by repeat (first | assumption | exact z_up_self _ _ _ | refine (z_up_ne (by first | decide | omega)).trans ?_)) (by rfl)) rfl ?_
      refine zb_go (zg_iload_n rfl) rfl ?_
      refine zb_go (zg_aload_n rfl) rfl ?_
      refine zb_go (zg_getfield fX6_29 (by first | decide | assumption | omega) (by repeat (first | assumption | exact z_up_self _ _ _ | refine (z_up_ne (by first | decide | omega)).trans ?_)) (by rfl)) rfl ?_
      refine zb_go (zg_bipush 6 (by decide)) rfl ?_
      refine zb_go (zg_iload_n rfl) rfl ?_
      refine zb_go zg_iadd rfl ?_
      refine zb_go (zi_iaload (by first | decide | assumption | omega) (by repeat (first | assumption | exact z_up_self _ _ _ | refine (z_up_ne (by first | decide | omega)).trans ?_)) i6) rfl ?_
      refine zb_go (zi_iastore (by first | decide | assumption | omega) (by repeat (first | assumption | exact z_up_self _ _ _ | refine (z_up_ne (by first | decide | omega)).trans ?_)) ik) rfl ?_
      refine zb_go (zg_aload_n rfl) rfl ?_
      refine zb_go (zg_getfield fX6_32 (by first | decide | assumption | omega) (by repeat (first | assumption | exact z_up_self _ _ _ | refine (z_up_ne (by first | decide | omega)).trans ?_)) (by rfl)) rfl ?_
      refine zb_go (zg_iload_n rfl) rfl ?_
      refine zb_go (zg_aload_n rfl) rfl ?_
      refine zb_go (zg_getfield fX6_32 (by first | decide | assumption | omega) (by repeat (first | assumption | exact z_up_self _ _ _ | refine (z_up_ne (by first | decide | omega)).trans ?_)) (by rfl)) rfl ?_
      refine zb_go (zg_bipush 6 (by decide)) rfl ?_
      refine zb_go (zg_iload_n rfl) rfl ?_
      refine zb_go zg_iadd rfl ?_
      refine zb_go (zi_iaload (by first | decide | assumption | omega) (by repeat (first | assumption | exact z_up_self _ _ _ | refine (z_up_ne (by first | decide | omega)).trans ?_)) i6) rfl ?_
      refine zb_go (zi_iastore (by first | decide | assumption | omega) (by repeat (first | assumption | exact z_up_self _ _ _ | refine (z_up_ne (by first | decide | omega)).trans ?_)) ik) rfl ?_
      refine zb_go (zg_iinc 1 (by decide) rfl (by decide)) rfl ?_
      refine zb_end (zg_goto (tgt := 190) (by decide) ?_) rfl
      rw [nI_1]
      refine ih hk2 _ F2 (upd F4 k (F4 (6 + k))) (upd F5 k (F5 (6 + k))) (upd F6 k (F6 (6 + k))) (upd F7 k (F7 (6 + k))) ?_ e2 ?_ (st e4 o4).1 (st e4 o4).2 ?_ (st e5 o5).1 (st e5 o5).2 ?_ (st e6 o6).1 (st e6 o6).2 (z_up_self _ _ _) (st e7 o7).1 (st e7 o7).2 (fun j j1 j2 => (z_up_ne (by omega)).trans ((z_up_ne (by omega)).trans ((z_up_ne (by omega)).trans ((z_up_ne (by omega)).trans (gS j j1 j2)))))
      · exact (z_up_ne (by decide)).trans ((z_up_ne (by decide)).trans ((z_up_ne (by decide)).trans ((z_up_ne (by decide)).trans g37)))
      · exact (z_up_ne (by decide)).trans ((z_up_ne (by decide)).trans ((z_up_ne (by decide)).trans (z_up_self _ _ _)))
      · exact (z_up_ne (by decide)).trans ((z_up_ne (by decide)).trans (z_up_self _ _ _))
      · exact (z_up_ne (by decide)).trans (z_up_self _ _ _)
  -- the hours
  have lpH : ∀ k, k ≤ 4 → ∀ H3 F2, H3 37 = .inl (0, 8, .inl F2) → (∀ j, j < k → F2 j = f2 (4 + j)) → (∀ j, 4 ≤ j → F2 j = f2 j) → (∀ j, j ≠ 37 → H3 j = Hb j) → zGo K l 5 mX6_parish 163 [(0, .ref 34), (1, .int (nI m)), (2, .int (nI k))] [] 59 H3 0 0 Q := by
    refine z_down 4 (fun k hk ih H3 F2 g37 e2 o2 gS => ?_)
    have g34 : H3 34 = _ := (gS 34 (by omega)).trans m34
    have g1 : H3 34 = .inr _ := g34
    refine kX6_parish_163 ?_
    refine zb_go (zg_iload_n rfl) rfl ?_
    refine zb_go (zg_iconst 4 (by decide)) rfl ?_
    refine zb_br (zg_icmp_ge (tgt := 188) (by decide)) rfl (fun c0 => ?_) (fun c0 => ?_)
    · obtain rfl := z_is_le (by omega) hk c0
      refine kX6_parish_188 ?_
      refine zb_go (zg_iconst 0 (by decide)) rfl ?_
      refine zb_go (zg_istore_n (by decide)) rfl ?_
      refine zb_out ?_
      exact lpR 0 (by omega) H3 F2 f4 f5 f6 f7 g37 e2 ((gS 39 (by omega)).trans m39) (fun j hj => by omega) (fun j _ => rfl) ((gS 40 (by omega)).trans m40) (fun j hj => by omega) (fun j _ => rfl) ((gS 41 (by omega)).trans m41) (fun j hj => by omega) (fun j _ => rfl) ((gS 42 (by omega)).trans m42) (fun j hj => by omega) (fun j _ => rfl) (fun j j1 _ => gS j j1)
    · have hk2 := z_not_le (by omega) hk c0
      have ik : zIx (nI k) 8 k := zIx.nI (by omega) (by decide)
      have i4 : zIx (4 + nI k) 8 (4 + k) := by rw [show (4 : Int32) = nI 4 from rfl, nI_add]; exact zIx.nI (by omega) (by decide)
      refine zb_go (zg_aload_n rfl) rfl ?_
      refine zb_go (zg_getfield fX6_17 (by first | decide | assumption | omega) (by repeat (first | assumption | exact z_up_self _ _ _ | refine (z_up_ne (by first | decide | omega)).trans ?_)) (by rfl)) rfl ?_
      refine zb_go (zg_iload_n rfl) rfl ?_
      refine zb_go (zg_aload_n rfl) rfl ?_
      refine zb_go (zg_getfield fX6_17 (by first | decide | assumption | omega) (by repeat (first | assumption | exact z_up_self _ _ _ | refine (z_up_ne (by first | decide | omega)).trans ?_)) (by rfl)) rfl ?_
      refine zb_go (zg_iconst 4 (by decide)) rfl ?_
      refine zb_go (zg_iload_n rfl) rfl ?_
      refine zb_go zg_iadd rfl ?_
      refine zb_go (zi_iaload (by first | decide | assumption | omega) (by repeat (first | assumption | exact z_up_self _ _ _ | refine (z_up_ne (by first | decide | omega)).trans ?_)) i4) rfl ?_
      refine zb_go (zi_iastore (by first | decide | assumption | omega) (by repeat (first | assumption | exact z_up_self _ _ _ | refine (z_up_ne (by first | decide | omega)).trans ?_)) ik) rfl ?_
      refine zb_go (zg_iinc 1 (by decide) rfl (by decide)) rfl ?_
      refine zb_end (zg_goto (tgt := 163) (by decide) ?_) rfl
      rw [nI_1]
      refine ih hk2 _ (upd F2 k (F2 (4 + k))) (z_up_self _ _ _) (fun j hj => ?_) (fun j hj => by rw [pk_un (by omega), o2 j hj]) (fun j hj => (z_up_ne hj).trans (gS j hj))
      by_cases w : j = k
      · rw [w, pk_us, o2 _ (by omega)]
      · rw [pk_un w, e2 j (by omega)]
  exact lpH 0 (by omega) Hb f2 m37 (fun j hj => by omega) (fun j _ => rfl) (fun j _ => rfl)
theorem r_X6_parish (hM : mRel h G) (ok : okS G) : zRex K l 5 mX6_parish [.ref 34] 59 h (fun v h' => v = some (.int (sParish G).1) ∧ mRel h' (sParish G).2 ∧ zSame 34 58 h h') := by
  refine zRex.of (by decide) (Nat.le_of_ble_eq_true rfl) (fun Q hQ => ?_)
  obtain ⟨⟨at_, st, so, va, fa, to, mo, wa, fe, ev⟩, f, kf, h1, ⟨tx, hx, htx⟩, hP, h46, hN, h47, hkf, hI, hRm⟩ := id hM
  have hc : mCore h (gP G) f := ⟨⟨_, _, _, h1⟩, hP, h46⟩
  have h1 : h 34 = .inr _ := h1
  obtain ⟨⟨f1, a1, b1⟩, ⟨f2, a2, b2⟩, ⟨f3, a3, b3⟩, ⟨f4, a4, b4⟩, ⟨f5, a5, b5⟩, ⟨f6, a6, b6⟩, ⟨f7, a7, b7⟩, ⟨f8, a8⟩, ⟨f9, a9, b9⟩, ⟨f10, a10, b10⟩⟩ := id hP
  have okp := ok.1
  have okt := ok.2.1
  have kH := okp.1
  have kR := okp.2.1
  have kl := ok.2.2.2
  have htx' := htx
  obtain ⟨len, el⟩ : ∃ len, gLen G = len := ⟨_, rfl⟩
  obtain ⟨t, et⟩ : ∃ t, gTx G = t := ⟨_, rfl⟩
  unfold sParish at hQ
  rw [el, et] at hQ htx
  rw [el] at kl
  have hby : ∀ j, j < len → isByte (t j) := fun j hj => (htx j hj).2
  have hPk : ∀ {e : Nat}, e ≤ len → pSk t len e ≤ len := fun he => pSk_le he
  -- a fault
  have bad : ∀ x H m, x ≤ len → pParse t len = .inl x → (∃ a b c d s, H 34 = mObj (gTr G) (nI len) (a, b, c, d, nI x, s, mo, wa, fe, ev)) → mPar H (gP G) → zPF h H → zGo K l 5 mX6_parish 57 [(0, .ref 34), (1, .int m)] [] 59 H 0 0 Q := by
    intro x H m hx hp g34 gP gF
    obtain ⟨a, b, c, d, s, g34⟩ := g34
    have g1 : H 34 = .inr _ := g34
    rw [hp] at hQ
    have fin : zGo K l 5 mX6_parish 84 [(0, .ref 34), (1, .int m)] [] 59 H 0 0 Q := by
      refine kX6_parish_84 ?_
      refine zb_go (zg_aload_n rfl) rfl ?_
      refine zb_go (zg_getfield fX6_117 (by first | decide | assumption | omega) (by repeat (first | assumption | exact z_up_self _ _ _ | refine (z_up_ne (by first | decide | omega)).trans ?_)) (by rfl)) rfl ?_
      refine zb_go (zg_bipush (-9) (by decide)) rfl ?_
      refine zb_br (zg_icmp_eq (tgt := 101) (by decide)) rfl (fun c0 => ?_) (fun c0 => ?_)
      · exact absurd c0 (nI_ne9 (by omega))
      · refine zb_go (zg_bipush (-10) (by decide)) rfl ?_
        refine zb_go (zg_aload_n rfl) rfl ?_
        refine zb_go (zg_getfield fX6_117 (by first | decide | assumption | omega) (by repeat (first | assumption | exact z_up_self _ _ _ | refine (z_up_ne (by first | decide | omega)).trans ?_)) (by rfl)) rfl ?_
        refine zb_go zg_isub rfl ?_
        refine zb_end (zg_ireturn rfl (by rfl) ?_) rfl
        refine hQ _ _ ⟨rfl, hM.par gF (by rw [el]; exact g34) gP, fun k hk => gF k (by omega) (by omega)⟩
    refine kX6_parish_57 ?_
    refine zb_go (zg_aload_n rfl) rfl ?_
    refine zb_go (zg_getfield fX6_117 (by first | decide | assumption | omega) (by repeat (first | assumption | exact z_up_self _ _ _ | refine (z_up_ne (by first | decide | omega)).trans ?_)) (by rfl)) rfl ?_
    refine zb_go (zg_bipush (-9) (by decide)) rfl ?_
    refine zb_br (zg_icmp_ne (tgt := 84) (by decide)) rfl (fun c0 => ?_) (fun c0 => ?_)
    · exact fin
    · exact absurd c0 (nI_ne9 (by omega))
  have lp : ∀ j m e H P tob tol, okP P → e ≤ len → H 34 = mObj (gTr G) (nI len) (kX t len e (-9) (nI tol) mo wa fe ev) → H 35 = .inl (1, 200, .inl tx) → mBoth H (gP G) P → zPF h H → tol < 32 → (∀ k, k < 5 → tol.testBit k = tob k) → len ≤ pSk t len e + j → pItems t len j P tob (pSk t len e) m = pParse t len → zGo K l 5 mX6_parish 57 [(0, .ref 34), (1, .int (nI m))] [] 59 H 0 0 Q := by
    intro j
    induction j with
    | zero =>
      intro m e H P tob tol okP1 he g34 g35 gB gF ht1 ht2 hj hp
      have k5 : kSo t len e = 5 := kSo_5.mpr (by omega)
      have g1 : H 34 = .inr _ := g34
      have hp : pParse t len = .inr (m, P) := by rw [← hp]; rfl
      rw [hp] at hQ
      refine kX6_parish_57 ?_
      refine zb_go (zg_aload_n rfl) rfl ?_
      refine zb_go (zg_getfield fX6_117 (by first | decide | assumption | omega) (by repeat (first | assumption | exact z_up_self _ _ _ | refine (z_up_ne (by first | decide | omega)).trans ?_)) (by rfl)) rfl ?_
      refine zb_go (zg_bipush (-9) (by decide)) rfl ?_
      refine zb_br (zg_icmp_ne (tgt := 84) (by decide)) rfl (fun c0 => ?_) (fun c0 => ?_)
      · exact absurd rfl c0
      · refine zb_go (zg_aload_n rfl) rfl ?_
        refine zb_go (zg_getfield fX6_110 (by first | decide | assumption | omega) (by repeat (first | assumption | exact z_up_self _ _ _ | refine (z_up_ne (by first | decide | omega)).trans ?_)) (by rfl)) rfl ?_
        refine zb_go (zg_iconst 5 (by decide)) rfl ?_
        refine zb_br (zg_icmp_eq (tgt := 84) (by decide)) rfl (fun c1 => ?_) (fun c1 => ?_)
        · refine kX6_parish_84 ?_
          refine zb_go (zg_aload_n rfl) rfl ?_
          refine zb_go (zg_getfield fX6_117 (by first | decide | assumption | omega) (by repeat (first | assumption | exact z_up_self _ _ _ | refine (z_up_ne (by first | decide | omega)).trans ?_)) (by rfl)) rfl ?_
          refine zb_go (zg_bipush (-9) (by decide)) rfl ?_
          refine zb_br (zg_icmp_eq (tgt := 101) (by decide)) rfl (fun c2 => ?_) (fun c2 => ?_)
          · exact r_X6_parishEnd hM okp okP1 gF (by rw [el]; exact g34) gB Q hQ
          · exact absurd rfl c2
        · exact absurd (by rw [k5]; rfl) c1
    | succ j ih =>
      intro m e H P tob tol okP1 he g34 g35 gB gF ht1 ht2 hj hp
      have g1 : H 34 = .inr _ := g34
      by_cases hs : pSk t len e < len
      · have n5 : kSo t len e ≠ 5 := fun w => by have := kSo_5.mp w; omega
        have ks := kSo_le (f := t) (len := len) (i := e)
        have hi := pItem_ok (f := t) (len := len) (i := pSk t len e) (to := tob) okP1 (by omega)
        simp only [pItems, if_pos hs] at hp
        refine kX6_parish_57 ?_
        refine zb_go (zg_aload_n rfl) rfl ?_
        refine zb_go (zg_getfield fX6_117 (by first | decide | assumption | omega) (by repeat (first | assumption | exact z_up_self _ _ _ | refine (z_up_ne (by first | decide | omega)).trans ?_)) (by rfl)) rfl ?_
        refine zb_go (zg_bipush (-9) (by decide)) rfl ?_
        refine zb_br (zg_icmp_ne (tgt := 84) (by decide)) rfl (fun c0 => ?_) (fun c0 => ?_)
        · exact absurd rfl c0
        · refine zb_go (zg_aload_n rfl) rfl ?_
          refine zb_go (zg_getfield fX6_110 (by first | decide | assumption | omega) (by repeat (first | assumption | exact z_up_self _ _ _ | refine (z_up_ne (by first | decide | omega)).trans ?_)) (by rfl)) rfl ?_
          refine zb_go (zg_iconst 5 (by decide)) rfl ?_
          refine zb_br (zg_icmp_eq (tgt := 84) (by decide)) rfl (fun c1 => ?_) (fun c1 => ?_)
          · exact absurd ((nI_eq (b := 5) (by omega) (by decide)).mp c1) n5
          · refine zb_go (zg_aload_n rfl) rfl ?_
            refine zb_callvx (r_X6_readItem g34 g35 htx kl he hs gB okp okP1 ht1 ht2) lX6_134 (by repeat (first | assumption | exact z_up_self _ _ _ | refine (z_up_ne (by first | decide | omega)).trans ?_)) rfl rfl (by first | decide | assumption | omega) (by first | decide | omega) rfl (Nat.le_of_ble_eq_true rfl) rfl ?_
            rintro v h' ⟨rfl, gF2, hr⟩
            refine zb_go (zg_iinc 1 (by decide) rfl (by decide)) rfl ?_
            refine zb_end (zg_goto (tgt := 57) (by decide) ?_) rfl
            rw [nI_1]
            cases ei : pItem t len P tob (pSk t len e) with
            | inl x =>
              rw [ei] at hr hp hi
              obtain ⟨r1, r2⟩ := hr
              exact bad x h' _ hi hp.symm r1 r2 (fun k k1 k2 => (gF2 k k1 k2).trans (gF k k1 k2))
            | inr q =>
              obtain ⟨P2, to2, e2⟩ := q
              rw [ei] at hr hp hi
              obtain ⟨tol2, r1, r2, r3, r4⟩ := hr
              obtain ⟨i1, i2, i3⟩ := hi
              have hge : e2 ≤ pSk t len e2 := pRun_ge _ _ _ _
              have i2 : pSk t len e < e2 := i2
              exact ih (m + 1) e2 h' P2 to2 tol2 i1 i3 r1 ((gF2 35 (by omega) (by omega)).trans g35) r2 (fun k k1 k2 => (gF2 k k1 k2).trans (gF k k1 k2)) r3 r4 (by omega) hp
      · have k5 : kSo t len e = 5 := kSo_5.mpr (by omega)
        simp only [pItems, if_neg hs] at hp
        rw [← hp] at hQ
        refine kX6_parish_57 ?_
        refine zb_go (zg_aload_n rfl) rfl ?_
        refine zb_go (zg_getfield fX6_117 (by first | decide | assumption | omega) (by repeat (first | assumption | exact z_up_self _ _ _ | refine (z_up_ne (by first | decide | omega)).trans ?_)) (by rfl)) rfl ?_
        refine zb_go (zg_bipush (-9) (by decide)) rfl ?_
        refine zb_br (zg_icmp_ne (tgt := 84) (by decide)) rfl (fun c0 => ?_) (fun c0 => ?_)
        · exact absurd rfl c0
        · refine zb_go (zg_aload_n rfl) rfl ?_
          refine zb_go (zg_getfield fX6_110 (by first | decide | assumption | omega) (by repeat (first | assumption | exact z_up_self _ _ _ | refine (z_up_ne (by first | decide | omega)).trans ?_)) (by rfl)) rfl ?_
          refine zb_go (zg_iconst 5 (by decide)) rfl ?_
          refine zb_br (zg_icmp_eq (tgt := 84) (by decide)) rfl (fun c1 => ?_) (fun c1 => ?_)
          · refine kX6_parish_84 ?_
            refine zb_go (zg_aload_n rfl) rfl ?_
            refine zb_go (zg_getfield fX6_117 (by first | decide | assumption | omega) (by repeat (first | assumption | exact z_up_self _ _ _ | refine (z_up_ne (by first | decide | omega)).trans ?_)) (by rfl)) rfl ?_
            refine zb_go (zg_bipush (-9) (by decide)) rfl ?_
            refine zb_br (zg_icmp_eq (tgt := 101) (by decide)) rfl (fun c2 => ?_) (fun c2 => ?_)
            · exact r_X6_parishEnd hM okp okP1 gF (by rw [el]; exact g34) gB Q hQ
            · exact absurd rfl c2
          · exact absurd (by rw [k5]; rfl) c1
  rw [el] at h1
  refine kX6_parish_0 ?_
  refine zb_go (zg_aload_n rfl) rfl ?_
  refine zb_go (zg_iconst 0 (by decide)) rfl ?_
  refine zb_go (zg_putfield fX6_97 (by first | decide | assumption | omega) (by repeat (first | assumption | exact z_up_self _ _ _ | refine (z_up_ne (by first | decide | omega)).trans ?_)) (by exact Nat.le_of_ble_eq_true rfl) (by rfl) (by rfl) (by first | exact Or.inl rfl | exact Or.inr ⟨rfl, rfl⟩)) rfl ?_
  refine zb_go (zg_aload_n rfl) rfl ?_
  refine zb_go (zg_bipush (-9) (by decide)) rfl ?_
  refine zb_go (zg_putfield fX6_117 (by first | decide | assumption | omega) (by repeat (first | assumption | exact z_up_self _ _ _ | refine (z_up_ne (by first | decide | omega)).trans ?_)) (by exact Nat.le_of_ble_eq_true rfl) (by rfl) (by rfl) (by first | exact Or.inl rfl | exact Or.inr ⟨rfl, rfl⟩)) rfl ?_
  refine zb_go (zg_aload_n rfl) rfl ?_
  refine zb_go (zg_iconst 0 (by decide)) rfl ?_
  refine zb_go (zg_putfield fX6_127 (by first | decide | assumption | omega) (by repeat (first | assumption | exact z_up_self _ _ _ | refine (z_up_ne (by first | decide | omega)).trans ?_)) (by exact Nat.le_of_ble_eq_true rfl) (by rfl) (by rfl) (by first | exact Or.inl rfl | exact Or.inr ⟨rfl, rfl⟩)) rfl ?_
  rw [z_up_up, z_up_up]
  change zGb K l 5 mX6_parish _ _ _ _ 59 (z_up h 34 (mObj (gTr G) (nI len) (nI 0, st, so, va, -9, nI 0, mo, wa, fe, ev))) 0 0 Q
  obtain ⟨H0, eH0⟩ : ∃ H0, H0 = z_up h 34 (mObj (gTr G) (nI len) (nI 0, st, so, va, -9, nI 0, mo, wa, fe, ev)) := ⟨_, rfl⟩
  rw [← eH0]
  have m34 : H0 34 = mObj (gTr G) (nI len) (nI 0, st, so, va, -9, nI 0, mo, wa, fe, ev) := by rw [eH0]; exact z_up_self _ _ _
  have up : ∀ {j : Nat} {E : va_E}, j ≠ 34 → h j = E → H0 j = E := fun hj hE => by rw [eH0]; exact (z_up_ne hj).trans hE
  have m35 := up (by decide) hx
  have m36 := up (by decide) a1
  have m37 := up (by decide) a2
  have m38 := up (by decide) a3
  have m39 := up (by decide) a4
  have m40 := up (by decide) a5
  have m41 := up (by decide) a6
  have m42 := up (by decide) a7
  have m43 := up (by decide) a8
  have m44 := up (by decide) a9
  have m45 := up (by decide) a10
  have mF : zPF h H0 := by rw [eH0]; exact zPF.rf.up (Or.inl rfl)
  clear up eH0
  have m34' : H0 34 = .inr _ := m34
  refine zb_go (zg_aload_n rfl) rfl ?_
  refine zb_go (zg_getfield fX6_13 (by first | decide | assumption | omega) (by repeat (first | assumption | exact z_up_self _ _ _ | refine (z_up_ne (by first | decide | omega)).trans ?_)) (by rfl)) rfl ?_
  refine zb_go (zg_iconst 1 (by decide)) rfl ?_
  refine zb_go (zg_iconst 0 (by decide)) rfl ?_
  refine zb_go (zi_iastore (by first | decide | assumption | omega) (by repeat (first | assumption | exact z_up_self _ _ _ | refine (z_up_ne (by first | decide | omega)).trans ?_)) (by first | assumption | exact zIx.nI (by omega) (by decide) | exact ⟨by decide, by decide⟩ | exact zIx.nI (k := 0) (by decide) (by decide) | exact zIx.nI (k := 1) (by decide) (by decide) | exact zIx.nI (k := 2) (by decide) (by decide) | exact zIx.nI (k := 3) (by decide) (by decide))) rfl ?_
  refine zb_go (zg_aload_n rfl) rfl ?_
  refine zb_go (zg_getfield fX6_20 (by first | decide | assumption | omega) (by repeat (first | assumption | exact z_up_self _ _ _ | refine (z_up_ne (by first | decide | omega)).trans ?_)) (by rfl)) rfl ?_
  refine zb_go (zg_iconst 1 (by decide)) rfl ?_
  refine zb_go (zg_iconst 0 (by decide)) rfl ?_
  refine zb_go (zi_iastore (by first | decide | assumption | omega) (by repeat (first | assumption | exact z_up_self _ _ _ | refine (z_up_ne (by first | decide | omega)).trans ?_)) (by first | assumption | exact zIx.nI (by omega) (by decide) | exact ⟨by decide, by decide⟩ | exact zIx.nI (k := 0) (by decide) (by decide) | exact zIx.nI (k := 1) (by decide) (by decide) | exact zIx.nI (k := 2) (by decide) (by decide) | exact zIx.nI (k := 3) (by decide) (by decide))) rfl ?_
  refine zb_go (zg_aload_n rfl) rfl ?_
  refine zb_go (zg_getfield fX6_35 (by first | decide | assumption | omega) (by repeat (first | assumption | exact z_up_self _ _ _ | refine (z_up_ne (by first | decide | omega)).trans ?_)) (by rfl)) rfl ?_
  refine zb_go (zg_iconst 1 (by decide)) rfl ?_
  refine zb_go (zg_iconst 0 (by decide)) rfl ?_
  refine zb_go (zi_iastore (by first | decide | assumption | omega) (by repeat (first | assumption | exact z_up_self _ _ _ | refine (z_up_ne (by first | decide | omega)).trans ?_)) (by first | assumption | exact zIx.nI (by omega) (by decide) | exact ⟨by decide, by decide⟩ | exact zIx.nI (k := 0) (by decide) (by decide) | exact zIx.nI (k := 1) (by decide) (by decide) | exact zIx.nI (k := 2) (by decide) (by decide) | exact zIx.nI (k := 3) (by decide) (by decide))) rfl ?_
  refine zb_go (zg_aload_n rfl) rfl ?_
  refine zb_go (zg_getfield fX6_38 (by first | decide | assumption | omega) (by repeat (first | assumption | exact z_up_self _ _ _ | refine (z_up_ne (by first | decide | omega)).trans ?_)) (by rfl)) rfl ?_
  refine zb_go (zg_iconst 1 (by decide)) rfl ?_
  refine zb_go (zg_iconst 1 (by decide)) rfl ?_
  refine zb_go (zi_iastore (by first | decide | assumption | omega) (by repeat (first | assumption | exact z_up_self _ _ _ | refine (z_up_ne (by first | decide | omega)).trans ?_)) (by first | assumption | exact zIx.nI (by omega) (by decide) | exact ⟨by decide, by decide⟩ | exact zIx.nI (k := 0) (by decide) (by decide) | exact zIx.nI (k := 1) (by decide) (by decide) | exact zIx.nI (k := 2) (by decide) (by decide) | exact zIx.nI (k := 3) (by decide) (by decide))) rfl ?_
  refine zb_go (zg_aload_n rfl) rfl ?_
  refine zb_go (zg_getfield fX6_41 (by first | decide | assumption | omega) (by repeat (first | assumption | exact z_up_self _ _ _ | refine (z_up_ne (by first | decide | omega)).trans ?_)) (by rfl)) rfl ?_
  refine zb_go (zg_iconst 1 (by decide)) rfl ?_
  refine zb_go (zg_iconst 0 (by decide)) rfl ?_
  refine zb_go (zi_iastore (by first | decide | assumption | omega) (by repeat (first | assumption | exact z_up_self _ _ _ | refine (z_up_ne (by first | decide | omega)).trans ?_)) (by first | assumption | exact zIx.nI (by omega) (by decide) | exact ⟨by decide, by decide⟩ | exact zIx.nI (k := 0) (by decide) (by decide) | exact zIx.nI (k := 1) (by decide) (by decide) | exact zIx.nI (k := 2) (by decide) (by decide) | exact zIx.nI (k := 3) (by decide) (by decide))) rfl ?_
  refine zb_go (zg_iconst 0 (by decide)) rfl ?_
  refine zb_go (zg_istore_n (by decide)) rfl ?_
  refine zb_go (zg_aload_n rfl) rfl ?_
  obtain ⟨H1, eH1⟩ : ∃ H1, H1 = z_up (z_up (z_up (z_up (z_up H0 36 (.inl (0, 2, .inl (upd f1 1 0)))) 38 (.inl (0, 2, .inl (upd f3 1 0)))) 43 (.inl (0, 2, .inl (upd f8 1 0)))) 44 (.inl (0, 2, .inl (upd f9 1 1)))) 45 (.inl (0, 2, .inl (upd f10 1 0))) := ⟨_, rfl⟩
  rw [← eH1]
  have u34 : H1 34 = mObj (gTr G) (nI len) (nI 0, st, so, va, -9, nI 0, mo, wa, fe, ev) := by rw [eH1]; exact (z_up_ne (by decide)).trans ((z_up_ne (by decide)).trans ((z_up_ne (by decide)).trans ((z_up_ne (by decide)).trans ((z_up_ne (by decide)).trans m34))))
  have up : ∀ {j : Nat} {E : va_E}, j ≠ 36 → j ≠ 38 → j ≠ 43 → j ≠ 44 → j ≠ 45 → H0 j = E → H1 j = E := fun n1 n2 n3 n4 n5 hE => by
    rw [eH1]; exact (z_up_ne n5).trans ((z_up_ne n4).trans ((z_up_ne n3).trans ((z_up_ne n2).trans ((z_up_ne n1).trans hE))))
  have u35 := up (by decide) (by decide) (by decide) (by decide) (by decide) m35
  have uB : mBoth H1 (gP G) zP0 := by
    refine ⟨⟨upd f1 1 0, ?_, b1, rfl⟩, ⟨f2, up (by decide) (by decide) (by decide) (by decide) (by decide) m37, b2, fun i hi => absurd hi (Nat.not_lt_zero _)⟩, ⟨upd f3 1 0, ?_, b3, rfl⟩, ⟨f4, up (by decide) (by decide) (by decide) (by decide) (by decide) m39, b4, fun i hi => absurd hi (Nat.not_lt_zero _)⟩, ⟨f5, up (by decide) (by decide) (by decide) (by decide) (by decide) m40, b5, fun i hi => absurd hi (Nat.not_lt_zero _)⟩, ⟨f6, up (by decide) (by decide) (by decide) (by decide) (by decide) m41, b6, fun i hi => absurd hi (Nat.not_lt_zero _)⟩, ⟨f7, up (by decide) (by decide) (by decide) (by decide) (by decide) m42, b7, fun i hi => absurd hi (Nat.not_lt_zero _)⟩, ⟨upd f8 1 0, ?_, rfl⟩, ⟨upd f9 1 1, ?_, b9, rfl⟩, ⟨upd f10 1 0, ?_, b10, rfl⟩⟩
    · rw [eH1]; exact (z_up_ne (by decide)).trans ((z_up_ne (by decide)).trans ((z_up_ne (by decide)).trans ((z_up_ne (by decide)).trans (z_up_self _ _ _))))
    · rw [eH1]; exact (z_up_ne (by decide)).trans ((z_up_ne (by decide)).trans ((z_up_ne (by decide)).trans (z_up_self _ _ _)))
    · rw [eH1]; exact (z_up_ne (by decide)).trans ((z_up_ne (by decide)).trans (z_up_self _ _ _))
    · rw [eH1]; exact (z_up_ne (by decide)).trans (z_up_self _ _ _)
    · rw [eH1]; exact z_up_self _ _ _
  have uF : zPF h H1 := by
    rw [eH1]
    exact ((((mF.up (Or.inr ⟨by decide, by decide⟩)).up (Or.inr ⟨by decide, by decide⟩)).up (Or.inr ⟨by decide, by decide⟩)).up (Or.inr ⟨by decide, by decide⟩)).up (Or.inr ⟨by decide, by decide⟩)
  clear up eH1
  have u34' : H1 34 = .inr _ := u34
  refine zb_callvx (r_X6_next u34 u35 htx kl (Nat.zero_le _)) lX6_120 (by repeat (first | assumption | exact z_up_self _ _ _ | refine (z_up_ne (by first | decide | omega)).trans ?_)) rfl rfl (by first | decide | assumption | omega) (by first | decide | omega) rfl (Nat.le_of_ble_eq_true rfl) rfl ?_
  rintro v h' ⟨rfl, rfl⟩
  refine zb_out ?_
  exact lp 200 0 0 _ zP0 (fun _ => false) 0 okP_0 (Nat.zero_le _) (z_up_self _ _ _) ((z_up_ne (by decide)).trans u35) (uB.same (lo := 34) (hi := 34) (zSame.rf.up (by omega) (by omega)) (by omega)) (uF.up (Or.inl rfl)) (by decide) (fun k _ => Nat.zero_testBit k) (by omega) rfl
end
