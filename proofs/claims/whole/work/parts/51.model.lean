/-! THE MODEL (4): put, take, exchange -/
theorem sBells_bit {P : zP} {r g b : Nat} : (sBells P r g).testBit b = true ↔ (r < pR P ∧ g < pH P ∧ (pBu P r).testBit g = false) ∧ (pBe P r).testBit b = true ∧ b < pW P g := by
  unfold sBells
  by_cases q : r < pR P ∧ g < pH P ∧ (pBu P r).testBit g = false
  · rw [if_pos q, Nat.testBit_and, Nat.testBit_two_pow_sub_one, Bool.and_eq_true, decide_eq_true_eq]
    exact ⟨fun z => ⟨q, z⟩, fun z => z.2⟩
  · rw [if_neg q]
    simp [q]
theorem zfst_congr {p q : Nat → Bool} {n : Nat} (h : ∀ i, i < n → p i = q i) : zfst p n = zfst q n := by
  induction n with
  | zero => rfl
  | succ n ih => rw [zfst, zfst, ih (fun i hi => h i (by omega)), h n (by omega)]
theorem zfst_uniq {p : Nat → Bool} {n r : Nat} (hr : r < n) (h : p r = true) (hu : ∀ i, i < n → p i = true → i = r) : zfst p n = some r :=
  zfst_some hr h (fun i hi => by
    rcases Bool.eq_false_or_eq_true (p i) with z | z
    · have := hu i (by omega) z
      omega
    · exact z)
theorem mNow.set {f : Nat → Int32} {T : zT} {r g b v : Nat} {x : Int32} (h : mNow f 0 T) (hg : g < 4) (hb : b < 3) (hx : x = oI (zfst (fun q => decide ((tSet T r g v).1 q g = b + 1)) 6)) (ho : ∀ b', b' < 3 → b' ≠ b → (v = b' + 1 ↔ T.1 r g = b' + 1)) : mNow (upd f (3 * g + b) x) 0 (tSet T r g v) := by
  refine ⟨fun k c hk hc => ?_, ?_, fun k hk => ?_⟩
  · rw [Nat.zero_add]
    by_cases q : k = g ∧ c = b
    · rw [q.1, q.2, pk_us]; exact hx
    · rw [pk_un (by omega), h.at hk hc]
      congr 1
      refine zfst_congr (fun i hi => decide_eq_decide.mpr ?_)
      by_cases z : i = r ∧ k = g
      · obtain ⟨rfl, rfl⟩ := z
        rw [tSet_at]
        exact (ho c hc (fun w => q ⟨rfl, w⟩)).symm
      · rw [tSet_ne z]
  · show upd f (3 * g + b) x 12 = _
    rw [pk_un (by omega)]; exact h.2.1
  · show upd f (3 * g + b) x (0 + 13 + k) = _
    rw [pk_un (by omega)]; exact h.2.2 k hk
theorem mNow.put {f : Nat → Int32} {P : zP} {T : zT} {r g b : Nat} (h : mNow f 0 T) (okt : okT P T) (hr : r < 6) (hg : g < 4) (hb : b < 3) (h0 : T.1 r g = 0) (hn : ∀ q, q < 6 → T.1 q g ≠ b + 1) : mNow (upd f (3 * g + b) (nI r)) 0 (tSet T r g (b + 1)) := by
  refine h.set hg hb ?_ (fun b' _ hne => by omega)
  rw [zfst_uniq (p := fun q => decide ((tSet T r g (b + 1)).1 q g = b + 1)) hr (decide_eq_true (tSet_at _ _ _ _)) (fun i hi z => by
    have z := of_decide_eq_true z
    by_cases w : i = r
    · exact w
    · rw [tSet_ne (fun y => w y.1)] at z
      exact absurd z (hn i hi))]
  rfl
theorem mNow.take {f : Nat → Int32} {P : zP} {T : zT} {r g b : Nat} (h : mNow f 0 T) (okt : okT P T) (hr : r < 6) (hg : g < 4) (hb : b < 3) (h0 : T.1 r g = b + 1) : mNow (upd f (3 * g + b) (-9)) 0 (tSet T r g 0) := by
  refine h.set hg hb ?_ (fun b' _ hne => by omega)
  rw [zfst_none (fun i hi => decide_eq_false (fun z => by
    by_cases w : i = r
    · rw [w, tSet_at] at z; omega
    · rw [tSet_ne (fun y => w y.1)] at z
      exact w (okt.2.1 i r g hi hr hg (by omega) (z.trans h0.symm))))]
  rfl
/-- the row of one who is put -/
theorem canPut_law {f : Nat → Int32} {P : zP} {T : zT} {r g b : Nat} (okp : okP P) (okt : okT P T) (h : mNow f 0 T) (hr : r < pR P) (hg : g < pH P) (hb : b < pW P g) (hf : f (3 * g + b) = -9) : lawF (upd f (3 * g + b) (nI r)) P r = true ↔ canPut P T r g b := by
  have kH := okp.1
  have kR := okp.2.1
  have kW := (okp.2.2.2.2.2.1 g hg).2
  have hr6 : r < 6 := by omega
  have hg4 : g < 4 := by omega
  have hb3 : b < 3 := by omega
  have hn := (h.none hg4 hb3).mp hf
  by_cases q : T.1 r g = 0
  · have h' := h.put okt hr6 hg4 hb3 q hn
    have hne : ∀ k, k < 4 → k ≠ g → (tSet T r g (b + 1)).1 r k = T.1 r k := fun k _ z => tSet_ne (fun w => z w.2)
    have ht3 : ∀ k, k < 4 → (tSet T r g (b + 1)).1 r k ≤ 3 := fun k hk => by
      by_cases z : k = g
      · rw [z, tSet_at]; omega
      · rw [hne k hk z]; exact okt.le okp hr6 hk
    have hfb : ∀ k c, k < 4 → c < 3 → ((upd f (3 * g + b) (nI r)) (3 * k + c) = nI r ↔ (tSet T r g (b + 1)).1 r k = c + 1) := fun k c hk hc => by
      by_cases z : k = g
      · by_cases w : c = b
        · rw [z, w, pk_us, tSet_at]; exact ⟨fun _ => rfl, fun _ => rfl⟩
        · rw [pk_un (by omega), h.bell okt hr6 hk hc, z, tSet_at, q]
          omega
      · rw [pk_un (by omega), h.bell okt hr6 hk hc, hne k hk z]
    rw [lawF_iff ht3 hfb]
    have hcnt : zcnt (fun k => decide ((tSet T r g (b + 1)).1 r k ≠ 0)) 4 = tN T r + 1 := tN_put hg4 q (by omega)
    rw [hcnt]
    constructor
    · rintro ⟨h1, h2, h3⟩
      have h4 := h1 g hg4 (by rw [tSet_at]; omega)
      rw [tSet_at, Nat.add_sub_cancel] at h4
      refine ⟨sBells_bit.mpr ⟨⟨hr, hg, h4.2⟩, h4.1, hb⟩, hn, by omega, fun k hk hk0 => ?_⟩
      have hkg : k ≠ g := fun z => hk0 (by rw [z]; exact q)
      have e1 : (tSet T r g (b + 1)).1 r k ≠ 0 := by rw [hne k hk hkg]; exact hk0
      have e2 : (tSet T r g (b + 1)).1 r g ≠ 0 := by rw [tSet_at]; omega
      rcases Nat.lt_or_ge k g with z | z
      · have := h2 g k z hg4 e2 e1
        unfold zdist; split <;> omega
      · have := h2 k g (by omega) hk e1 e2
        unfold zdist; split <;> omega
    · rintro ⟨h1, -, h3, h4⟩
      obtain ⟨⟨-, -, h5⟩, h6, -⟩ := sBells_bit.mp h1
      refine ⟨fun k hk hk0 => ?_, fun k m hm hk hk0 hm0 => ?_, by omega⟩
      · by_cases z : k = g
        · rw [z, tSet_at, Nat.add_sub_cancel]; exact ⟨h6, h5⟩
        · rw [hne k hk z] at hk0 ⊢
          obtain ⟨-, -, -, w⟩ := okt.1 r k hr6 hk hk0
          obtain ⟨⟨-, -, w1⟩, w2, -⟩ := sBells_bit.mp w
          exact ⟨w2, w1⟩
      · by_cases z : k = g
        · rw [hne m (by omega) (by omega)] at hm0
          have := h4 m (by omega) hm0
          unfold zdist at this
          rw [if_neg (by omega)] at this
          omega
        · by_cases w : m = g
          · rw [hne k hk z] at hk0
            have := h4 k hk hk0
            unfold zdist at this
            rw [if_pos (by omega)] at this
            omega
          · rw [hne k hk z] at hk0
            rw [hne m (by omega) w] at hm0
            have := okt.2.2.2.1 r k m hr6 hk (by omega) (by omega) hk0 hm0
            unfold zdist at this
            rw [if_neg (by omega)] at this
            exact this
  · have h3 := okt.le okp hr6 hg4
    have no : ¬ canPut P T r g b := fun z => by
      have := z.2.2.2 g hg4 q
      unfold zdist at this
      rw [if_pos (Nat.le_refl _)] at this
      omega
    refine ⟨fun z => ?_, fun z => absurd z no⟩
    exfalso
    unfold lawF at z
    rw [Bool.and_eq_true, lI_iff] at z
    obtain ⟨b', hb'⟩ : ∃ b', T.1 r g = b' + 1 := ⟨T.1 r g - 1, by omega⟩
    have hbb : b' ≠ b := fun w => hn r hr6 (by rw [hb', w])
    have e1 : (upd f (3 * g + b) (nI r)) (3 * g + b) = nI r := pk_us
    have e2 : (upd f (3 * g + b) (nI r)) (3 * g + b') = nI r := by
      rw [pk_un (by omega)]
      exact (h.bell okt hr6 hg4 (by omega)).mpr hb'
    have key : ∀ F : Nat → Int32, F (3 * g + b) = nI r → F (3 * g + b') = nI r → 2 ≤ lM F (nI r) g 3 := by
      intro F a1 a2
      simp only [lM, zcnt, decide_eq_true_eq]
      have hb3' : b' < 3 := by omega
      rcases (show b = 0 ∨ b = 1 ∨ b = 2 by omega) with rfl | rfl | rfl <;> rcases (show b' = 0 ∨ b' = 1 ∨ b' = 2 by omega) with rfl | rfl | rfl <;> first | exact absurd rfl hbb | (rw [if_pos a1, if_pos a2]; omega) | (rw [if_pos a2, if_pos a1]; omega)
    have k2 := key _ e1 e2
    have := (z.1.2.1 g hg4 (by omega)).1
    omega
def swI (x y v : Int32) : Int32 := if v = x then y else if v = y then x else v
theorem swI_swI (x y v : Int32) : swI x y (swI x y v) = v := by
  unfold swI
  by_cases a : v = x
  · rw [if_pos a]
    by_cases b : y = x
    · rw [if_pos b, b, a]
    · rw [if_neg b, if_pos rfl, a]
  · rw [if_neg a]
    by_cases b : v = y
    · rw [if_pos b, if_pos rfl, b]
    · rw [if_neg b, if_neg a, if_neg b]
theorem mNow.swap {f f' : Nat → Int32} {P : zP} {T : zT} {r q : Nat} (h : mNow f 0 T) (okt : okT P T) (hr : r < 6) (hq : q < 6) (hrq : r ≠ q) (h1 : ∀ k, k < 12 → f' k = swI (nI r) (nI q) (f k)) (h2 : ∀ k, 12 ≤ k → f' k = f k) : mNow f' 0 (tSwap T r q) := by
  refine ⟨fun g b hg hb => ?_, (h2 12 (by omega)).trans h.2.1, fun g hg => (h2 _ (by omega)).trans (h.2.2 g hg)⟩
  rw [Nat.zero_add, h1 _ (by omega), h.at hg hb]
  cases e : zfst (fun r => decide (T.1 r g = b + 1)) 6 with
  | none =>
    have hn := zfst_none_iff.mp e
    rw [zfst_none (fun i hi => by
      rw [swap_eq]
      exact hn _ (by split <;> first | exact hq | (split <;> omega)))]
    show swI (nI r) (nI q) (-9) = -9
    unfold swI
    rw [if_neg (fun z => nI_ne9 (by omega) z.symm), if_neg (fun z => nI_ne9 (by omega) z.symm)]
  | some k =>
    obtain ⟨hk, hk1, -⟩ := zfst_spec e
    have hk1 := of_decide_eq_true hk1
    have hs6 : (if k = r then q else if k = q then r else k) < 6 := by split <;> first | exact hq | (split <;> omega)
    have hss : ∀ i, (if (if i = r then q else if i = q then r else i) = r then q else if (if i = r then q else if i = q then r else i) = q then r else (if i = r then q else if i = q then r else i)) = i := by
      intro i
      by_cases a : i = r
      · simp [a]
      · by_cases c : i = q
        · simp [a, c]
        · simp [a, c]
    rw [zfst_uniq (r := if k = r then q else if k = q then r else k) hs6 (by
      rw [swap_eq, hss]; exact decide_eq_true hk1) (fun i hi z => by
      rw [swap_eq] at z
      have z := of_decide_eq_true z
      have e3 := okt.2.1 (if i = r then q else if i = q then r else i) k g (by split <;> first | exact hq | (split <;> omega)) hk hg (by omega) (z.trans hk1.symm)
      rw [← e3, hss])]
    show swI (nI r) (nI q) (nI k) = nI _
    unfold swI
    by_cases a : k = r
    · rw [if_pos (by rw [a]), if_pos a]
    · rw [if_neg (fun z => a ((nI_eq (by omega) (by omega)).mp z)), if_neg a]
      by_cases c : k = q
      · rw [if_pos (by rw [c]), if_pos c]
      · rw [if_neg (fun z => c ((nI_eq (by omega) (by omega)).mp z)), if_neg c]
/-- one takes over another's turns -/
theorem canTake_law {f : Nat → Int32} {P : zP} {T : zT} {r q : Nat} (okp : okP P) (okt : okT P T) (hr : r < pR P) (hq : q < 6) (hf : ∀ g b, g < 4 → b < 3 → (f (3 * g + b) = nI r ↔ T.1 q g = b + 1)) : lawF f P r = true ↔ canTake P T r q := by
  rw [lawF_iff (t := T.1 q) (fun g hg => okt.le okp hq hg) hf]
  have kH := okp.1
  constructor
  · rintro ⟨h1, -, -⟩ g hg h0
    have hw := okt.1 q g hq (by omega) h0
    obtain ⟨a, c⟩ := h1 g (by omega) h0
    exact sBells_bit.mpr ⟨⟨hr, hg, c⟩, a, by omega⟩
  · intro h1
    refine ⟨fun g hg h0 => ?_, fun g k hk hg a b => ?_, okt.2.2.1 q hq⟩
    · have hw := okt.1 q g hq hg h0
      obtain ⟨⟨-, -, a⟩, c, -⟩ := sBells_bit.mp (h1 g hw.2.1 h0)
      exact ⟨c, a⟩
    · have := okt.2.2.2.1 q g k hq hg (by omega) (by omega) a b
      unfold zdist at this
      rw [if_neg (by omega)] at this
      exact this
section
variable {K : zK} {l : Launch} {n p q r g : Nat} {h h1 : zH} {x y z : Int32} {G : zS} {P : zP} {f : Nat → Int32} {T : zT}
theorem r_X6_put (hM : mRel h G) (ok : okS G) : zRex K l 3 mX6_put [.ref 34, .int x, .int y, .int z] 59 h (fun v h' => v = some (.int (sPut G x y z).1) ∧ mRel h' (sPut G x y z).2 ∧ zSame 34 58 h h') := by
  refine zRex.of (by decide) (Nat.le_of_ble_eq_true rfl) (fun Q hQ => ?_)
  obtain ⟨⟨at_, st, so, va, fa, to, mo, wa, fe, ev⟩, f, kf, h1, ⟨tx, hx, htx⟩, hP, h46, hN, h47, hkf, hI, hRm⟩ := id hM
  have hc : mCore h (gP G) f := ⟨⟨_, _, _, h1⟩, hP, h46⟩
  have h1 : h 34 = .inr _ := h1
  obtain ⟨⟨f1, a1, b1⟩, ⟨f2, a2, b2⟩, ⟨f3, a3, b3⟩, ⟨f4, a4, b4⟩, ⟨f5, a5, b5⟩, ⟨f6, a6, b6⟩, ⟨f7, a7, b7⟩, ⟨f8, a8⟩, ⟨f9, a9, b9⟩, ⟨f10, a10, b10⟩⟩ := id hP
  have okp := ok.1
  have okt := ok.2.1
  have kH := okp.1
  have kR := okp.2.1
  have bad : ¬ (iR G x ∧ iB G y z) → zGo K l 3 mX6_put 17 (lv_args 0 [.ref 34, .int x, .int y, .int z]) [] 59 h 0 0 Q := by
    intro hn
    refine kX6_put_17 ?_
    refine zb_go (zg_iconst (-1) (by decide)) rfl ?_
    refine zb_end (zg_ireturn rfl (by rfl) ?_) rfl
    rw [sPut, zite_f hn] at hQ
    exact hQ _ _ ⟨rfl, hM, zSame.rf⟩
  refine kX6_put_0 ?_
  refine zb_go (zg_aload_n rfl) rfl ?_
  refine zb_go (zg_iload_n rfl) rfl ?_
  refine zb_callv (r_X6_isRinger hc okp) lX6_153 (by repeat (first | assumption | exact z_up_self _ _ _ | refine (z_up_ne (by first | decide | omega)).trans ?_)) rfl rfl (by first | decide | assumption | omega) (by first | decide | omega) rfl (Nat.le_of_ble_eq_true rfl) rfl ?_
  refine zb_br (zg_if_eq (tgt := 17) (by decide)) rfl (fun c0 => ?_) (fun c0 => ?_)
  · exact bad (fun q => zb_0.mp c0 q.1)
  · have c0 := zb_n.mp c0
    refine zb_go (zg_aload_n rfl) rfl ?_
    refine zb_go (zg_iload_n rfl) rfl ?_
    refine zb_go (zg_iload_n rfl) rfl ?_
    refine zb_callv (r_X6_isWanted hc okp) lX6_160 (by repeat (first | assumption | exact z_up_self _ _ _ | refine (z_up_ne (by first | decide | omega)).trans ?_)) rfl rfl (by first | decide | assumption | omega) (by first | decide | omega) rfl (Nat.le_of_ble_eq_true rfl) rfl ?_
    refine zb_br (zg_if_ne (tgt := 19) (by decide)) rfl (fun c1 => ?_) (fun c1 => ?_)
    · have c1 := zb_n.mp c1
      rw [sPut, zite_t ⟨c0, c1⟩] at hQ
      obtain ⟨r, hr, rfl⟩ := z_isIx (by omega) c0
      obtain ⟨g, b, hg, hb, rfl, rfl, hg4, hb3⟩ := iB_of okp c1
      rw [nI_clamp (by omega), nI_clamp (by omega), nI_clamp (by omega)] at hQ
      have i3 := z_ix3 hg4 hb3
      refine kX6_put_19 ?_
      refine zb_go (zg_aload_n rfl) rfl ?_
      refine zb_go (zg_getfield fX6_44 (by first | decide | assumption | omega) (by repeat (first | assumption | exact z_up_self _ _ _ | refine (z_up_ne (by first | decide | omega)).trans ?_)) (by rfl)) rfl ?_
      refine zb_go (zg_iconst 3 (by decide)) rfl ?_
      refine zb_go (zg_iload_n rfl) rfl ?_
      refine zb_go zg_imul rfl ?_
      refine zb_go (zg_iload_n rfl) rfl ?_
      refine zb_go zg_iadd rfl ?_
      refine zb_go (zi_iaload (by first | decide | assumption | omega) (by repeat (first | assumption | exact z_up_self _ _ _ | refine (z_up_ne (by first | decide | omega)).trans ?_)) i3) rfl ?_
      refine zb_go (zg_bipush (-9) (by decide)) rfl ?_
      refine zb_br (zg_icmp_eq (tgt := 37) (by decide)) rfl (fun c2 => ?_) (fun c2 => ?_)
      · have hc2 := hc.up (upd f (3 * g + b) (nI r))
        have hcan := canPut_law okp okt hN hr hg hb c2
        have s1 : zSame 34 58 h (z_up h 46 (.inl (0, 51, .inl (upd f (3 * g + b) (nI r))))) := zSame.rf.up (by omega) (by omega)
        refine kX6_put_37 ?_
        refine zb_go (zg_aload_n rfl) rfl ?_
        refine zb_go (zg_getfield fX6_44 (by first | decide | assumption | omega) (by repeat (first | assumption | exact z_up_self _ _ _ | refine (z_up_ne (by first | decide | omega)).trans ?_)) (by rfl)) rfl ?_
        refine zb_go (zg_iconst 3 (by decide)) rfl ?_
        refine zb_go (zg_iload_n rfl) rfl ?_
        refine zb_go zg_imul rfl ?_
        refine zb_go (zg_iload_n rfl) rfl ?_
        refine zb_go zg_iadd rfl ?_
        refine zb_go (zg_iload_n rfl) rfl ?_
        refine zb_go (zi_iastore (by first | decide | assumption | omega) (by repeat (first | assumption | exact z_up_self _ _ _ | refine (z_up_ne (by first | decide | omega)).trans ?_)) i3) rfl ?_
        refine zb_go (zg_aload_n rfl) rfl ?_
        refine zb_go (zg_iload_n rfl) rfl ?_
        refine zb_callv (r_X6_isLawful hc2 okp hr) lX6_163 (by repeat (first | assumption | exact z_up_self _ _ _ | refine (z_up_ne (by first | decide | omega)).trans ?_)) rfl rfl (by first | decide | assumption | omega) (by first | decide | omega) rfl (Nat.le_of_ble_eq_true rfl) rfl ?_
        refine zb_br (zg_if_ne (tgt := 71) (by decide)) rfl (fun c3 => ?_) (fun c3 => ?_)
        · have c3 := hcan.mp (bI_n.mp c3)
          rw [zite_t c3] at hQ
          have h0 : (gT G).1 r g = 0 := by
            rcases Nat.eq_zero_or_pos ((gT G).1 r g) with q | q
            · exact q
            · have := c3.2.2.2 g hg4 (by omega)
              unfold zdist at this
              rw [if_pos (Nat.le_refl _)] at this
              omega
          have hN2 := hN.put okt (r := r) (by omega) hg4 hb3 h0 c3.2.1
          have okt2 := okt.put hr hg hb (by omega) hg4 c3
          have h1' : z_up h 46 (.inl (0, 51, .inl (upd f (3 * g + b) (nI r)))) 34 = _ := (z_up_ne (by decide)).trans h1
          refine kX6_put_71 ?_
          refine zb_go (zg_aload_n rfl) rfl ?_
          refine zb_callv (r_X6_allInRota hc2 okp) lX6_166 (by repeat (first | assumption | exact z_up_self _ _ _ | refine (z_up_ne (by first | decide | omega)).trans ?_)) rfl rfl (by first | decide | assumption | omega) (by first | decide | omega) rfl (Nat.le_of_ble_eq_true rfl) rfl ?_
          refine zb_end (zg_ireturn rfl (by rfl) ?_) rfl
          rw [hN2.all okp okt2, tAll_put (by omega) hg4 h0 (by omega)]
          exact hQ _ _ ⟨rfl, hM.now h46 hN2 (fun j hj => pk_un (by omega)), s1⟩
        · have c3 : ¬ canPut (gP G) (gT G) r g b := fun z => by rw [hcan.mpr z] at c3; exact absurd c3 (by decide)
          rw [zite_f c3] at hQ
          refine zb_go (zg_aload_n rfl) rfl ?_
          refine zb_go (zg_getfield fX6_44 (by first | decide | assumption | omega) (by repeat (first | assumption | exact z_up_self _ _ _ | refine (z_up_ne (by first | decide | omega)).trans ?_)) (by rfl)) rfl ?_
          refine zb_go (zg_iconst 3 (by decide)) rfl ?_
          refine zb_go (zg_iload_n rfl) rfl ?_
          refine zb_go zg_imul rfl ?_
          refine zb_go (zg_iload_n rfl) rfl ?_
          refine zb_go zg_iadd rfl ?_
          refine zb_go (zg_bipush (-9) (by decide)) rfl ?_
          refine zb_go (zi_iastore (by first | decide | assumption | omega) (by repeat (first | assumption | exact z_up_self _ _ _ | refine (z_up_ne (by first | decide | omega)).trans ?_)) i3) rfl ?_
          refine zb_go (zg_bipush (-2) (by decide)) rfl ?_
          refine zb_end (zg_ireturn rfl (by rfl) ?_) rfl
          have e : upd (upd f (3 * g + b) (nI r)) (3 * g + b) (-9) = f := by
            funext j
            by_cases w : j = 3 * g + b
            · rw [w, pk_us, c2]
            · rw [pk_un w, pk_un w]
          rw [z_up_up, e, z_up_id h46]
          exact hQ _ _ ⟨rfl, hM, zSame.rf⟩
      · have c3 : ¬ canPut (gP G) (gT G) r g b := fun z => c2 ((hN.none hg4 hb3).mpr z.2.1)
        rw [zite_f c3] at hQ
        refine zb_go (zg_bipush (-2) (by decide)) rfl ?_
        refine zb_end (zg_ireturn rfl (by rfl) ?_) rfl
        exact hQ _ _ ⟨rfl, hM, zSame.rf⟩
    · have c1 := zb_0.mp c1
      refine zb_out ?_
      exact bad (fun q => c1 q.2)
theorem r_X6_take (hM : mRel h G) (ok : okS G) : zRex K l 2 mX6_take [.ref 34, .int x, .int y] 59 h (fun v h' => v = some (.int (sTake G x y).1) ∧ mRel h' (sTake G x y).2 ∧ zSame 34 58 h h') := by
  refine zRex.of (by decide) (Nat.le_of_ble_eq_true rfl) (fun Q hQ => ?_)
  obtain ⟨⟨at_, st, so, va, fa, to, mo, wa, fe, ev⟩, f, kf, h1, ⟨tx, hx, htx⟩, hP, h46, hN, h47, hkf, hI, hRm⟩ := id hM
  have hc : mCore h (gP G) f := ⟨⟨_, _, _, h1⟩, hP, h46⟩
  have h1 : h 34 = .inr _ := h1
  obtain ⟨⟨f1, a1, b1⟩, ⟨f2, a2, b2⟩, ⟨f3, a3, b3⟩, ⟨f4, a4, b4⟩, ⟨f5, a5, b5⟩, ⟨f6, a6, b6⟩, ⟨f7, a7, b7⟩, ⟨f8, a8⟩, ⟨f9, a9, b9⟩, ⟨f10, a10, b10⟩⟩ := id hP
  have okp := ok.1
  have okt := ok.2.1
  have kH := okp.1
  have kR := okp.2.1
  have bad : ¬ (iR G x ∧ iH G y) → zGo K l 2 mX6_take 16 (lv_args 0 [.ref 34, .int x, .int y]) [] 59 h 0 0 Q := by
    intro hn
    refine kX6_take_16 ?_
    refine zb_go (zg_iconst (-1) (by decide)) rfl ?_
    refine zb_end (zg_ireturn rfl (by rfl) ?_) rfl
    rw [sTake, zite_f hn] at hQ
    exact hQ _ _ ⟨rfl, hM, zSame.rf⟩
  refine kX6_take_0 ?_
  refine zb_go (zg_aload_n rfl) rfl ?_
  refine zb_go (zg_iload_n rfl) rfl ?_
  refine zb_callv (r_X6_isRinger hc okp) lX6_153 (by repeat (first | assumption | exact z_up_self _ _ _ | refine (z_up_ne (by first | decide | omega)).trans ?_)) rfl rfl (by first | decide | assumption | omega) (by first | decide | omega) rfl (Nat.le_of_ble_eq_true rfl) rfl ?_
  refine zb_br (zg_if_eq (tgt := 16) (by decide)) rfl (fun c0 => ?_) (fun c0 => ?_)
  · exact bad (fun q => zb_0.mp c0 q.1)
  · have c0 := zb_n.mp c0
    refine zb_go (zg_aload_n rfl) rfl ?_
    refine zb_go (zg_iload_n rfl) rfl ?_
    refine zb_callv (r_X6_isHour hc okp) lX6_137 (by repeat (first | assumption | exact z_up_self _ _ _ | refine (z_up_ne (by first | decide | omega)).trans ?_)) rfl rfl (by first | decide | assumption | omega) (by first | decide | omega) rfl (Nat.le_of_ble_eq_true rfl) rfl ?_
    refine zb_br (zg_if_ne (tgt := 18) (by decide)) rfl (fun c1 => ?_) (fun c1 => ?_)
    · have c1 := zb_n.mp c1
      rw [sTake, zite_t ⟨c0, c1⟩] at hQ
      obtain ⟨r, hr, rfl⟩ := z_isIx (by omega) c0
      obtain ⟨g, hg, rfl⟩ := z_isIx (by omega) c1
      rw [nI_clamp (by omega), nI_clamp (by omega)] at hQ
      have hg4 : g < 4 := by omega
      have hb := hN.bfe okp okt (r := r) (g := g) (by omega) hg4
      have h3 := okt.le okp (r := r) (g := g) (by omega) hg4
      refine kX6_take_18 ?_
      refine zb_go (zg_aload_n rfl) rfl ?_
      refine zb_go (zg_iload_n rfl) rfl ?_
      refine zb_go (zg_iload_n rfl) rfl ?_
      refine zb_callv (r_X6_bellOf hc okp hg4) lX6_141 (by repeat (first | assumption | exact z_up_self _ _ _ | refine (z_up_ne (by first | decide | omega)).trans ?_)) rfl rfl (by first | decide | assumption | omega) (by first | decide | omega) rfl (Nat.le_of_ble_eq_true rfl) rfl ?_
      refine zb_go (zg_istore_n (by decide)) rfl ?_
      refine zb_go (zg_iload_n rfl) rfl ?_
      refine zb_go (zg_bipush (-9) (by decide)) rfl ?_
      refine zb_br (zg_icmp_ne (tgt := 34) (by decide)) rfl (fun c2 => ?_) (fun c2 => ?_)
      · rw [hb] at c2
        have hne : (gT G).1 r g ≠ 0 := fun z => c2 (by rw [if_pos z])
        rw [zite_f hne] at hQ
        rw [if_neg hne] at hb
        rw [hb]
        obtain ⟨b, eb⟩ : ∃ b, (gT G).1 r g = b + 1 := ⟨(gT G).1 r g - 1, by omega⟩
        rw [eb, Nat.add_sub_cancel] at hQ ⊢
        refine kX6_take_34 ?_
        refine zb_go (zg_aload_n rfl) rfl ?_
        refine zb_go (zg_getfield fX6_44 (by first | decide | assumption | omega) (by repeat (first | assumption | exact z_up_self _ _ _ | refine (z_up_ne (by first | decide | omega)).trans ?_)) (by rfl)) rfl ?_
        refine zb_go (zg_iconst 3 (by decide)) rfl ?_
        refine zb_go (zg_iload_n rfl) rfl ?_
        refine zb_go zg_imul rfl ?_
        refine zb_go (zg_iload_n rfl) rfl ?_
        refine zb_go zg_iadd rfl ?_
        refine zb_go (zg_bipush (-9) (by decide)) rfl ?_
        refine zb_go (zi_iastore (by first | decide | assumption | omega) (by repeat (first | assumption | exact z_up_self _ _ _ | refine (z_up_ne (by first | decide | omega)).trans ?_)) (z_ix3 hg4 (show b < 3 by omega))) rfl ?_
        refine zb_go (zg_iload_n rfl) rfl ?_
        refine zb_end (zg_ireturn rfl (by rfl) ?_) rfl
        exact hQ _ _ ⟨rfl, hM.now h46 (hN.take okt (by omega) hg4 (by omega) eb) (fun j hj => pk_un (by omega)), zSame.rf.up (by omega) (by omega)⟩
      · rw [hb] at c2
        have h0 : (gT G).1 r g = 0 := by
          by_cases q : (gT G).1 r g = 0
          · exact q
          · rw [if_neg q] at c2; exact absurd c2 (nI_ne9 (by omega))
        rw [zite_t h0] at hQ
        refine zb_go (zg_bipush (-2) (by decide)) rfl ?_
        refine zb_end (zg_ireturn rfl (by rfl) ?_) rfl
        exact hQ _ _ ⟨rfl, hM, zSame.rf⟩
    · have c1 := zb_0.mp c1
      refine zb_out ?_
      exact bad (fun q => c1 q.2)
theorem r_X6_change {F : Nat → Int32} {h0 : zH} (h1 : ∃ tr ty X, h0 34 = mObj tr ty X) (h46 : h0 46 = .inl (0, 51, .inl F)) : zRex K l 0 mX6_change [.ref 34, .int x, .int y] 59 h0 (fun v h' => v = none ∧ ∃ F', h' = z_up h0 46 (.inl (0, 51, .inl F')) ∧ (∀ k, k < 12 → F' k = swI x y (F k)) ∧ ∀ k, 12 ≤ k → F' k = F k) := by
  refine zRex.of (by decide) (Nat.le_of_ble_eq_true rfl) (fun Q hQ => ?_)
  obtain ⟨tr, ty, ⟨at_, st, so, va, fa, to, mo, wa, fe, ev⟩, h1⟩ := h1
  have h1 : h0 34 = .inr _ := h1
  have lp : ∀ k, k ≤ 12 → ∀ F', (∀ j, j < k → F' j = swI x y (F j)) → (∀ j, k ≤ j → F' j = F j) → zGo K l 0 mX6_change 2 [(0, .ref 34), (1, .int x), (2, .int y), (3, .int (nI k))] [] 59 (z_up h0 46 (.inl (0, 51, .inl F'))) 0 0 Q := by
    refine z_down 12 (fun k hk ih F' e1 e2 => ?_)
    refine kX6_change_2 ?_
    refine zb_go (zg_iload_n rfl) rfl ?_
    refine zb_go (zg_bipush 12 (by decide)) rfl ?_
    refine zb_br (zg_icmp_ge (tgt := 54) (by decide)) rfl (fun c => ?_) (fun c => ?_)
    · obtain rfl := z_is_le (by decide) hk c
      refine kX6_change_54 ?_
      refine zb_end (zg_return rfl ?_) rfl
      exact hQ _ _ ⟨rfl, F', rfl, e1, e2⟩
    · have hk4 := z_not_le (by decide) hk c
      have i51 : zIx (nI k) 51 k := zIx.nI (by omega) (by decide)
      have go : ∀ w, w = swI x y (F k) → zGo K l 0 mX6_change 47 [(0, .ref 34), (1, .int x), (2, .int y), (3, .int (nI k))] [.int w, .int (nI k), .ref 46] 59 (z_up h0 46 (.inl (0, 51, .inl F'))) 0 0 Q := by
        intro w hw
        refine kX6_change_47 ?_
        refine zb_go (zi_iastore (by first | decide | assumption | omega) (by repeat (first | assumption | exact z_up_self _ _ _ | refine (z_up_ne (by first | decide | omega)).trans ?_)) i51) rfl ?_
        refine zb_go (zg_iinc 1 (by decide) rfl (by decide)) rfl ?_
        refine zb_end (zg_goto (tgt := 2) (by decide) ?_) rfl
        rw [z_up_up, nI_1]
        refine ih hk4 _ (fun j hj => ?_) (fun j hj => ?_)
        · by_cases z : j = k
          · rw [z, pk_us]; exact hw
          · rw [pk_un z]; exact e1 j (by omega)
        · rw [pk_un (by omega)]; exact e2 j (by omega)
      have ek := e2 k (Nat.le_refl _)
      refine zb_go (zg_aload_n rfl) rfl ?_
      refine zb_go (zg_getfield fX6_44 (by first | decide | assumption | omega) (by repeat (first | assumption | exact z_up_self _ _ _ | refine (z_up_ne (by first | decide | omega)).trans ?_)) (by rfl)) rfl ?_
      refine zb_go (zg_iload_n rfl) rfl ?_
      refine zb_go (zg_aload_n rfl) rfl ?_
      refine zb_go (zg_getfield fX6_44 (by first | decide | assumption | omega) (by repeat (first | assumption | exact z_up_self _ _ _ | refine (z_up_ne (by first | decide | omega)).trans ?_)) (by rfl)) rfl ?_
      refine zb_go (zg_iload_n rfl) rfl ?_
      refine zb_go (zi_iaload (by first | decide | assumption | omega) (by repeat (first | assumption | exact z_up_self _ _ _ | refine (z_up_ne (by first | decide | omega)).trans ?_)) i51) rfl ?_
      refine zb_go (zg_iload_n rfl) rfl ?_
      refine zb_br (zg_icmp_ne (tgt := 27) (by decide)) rfl (fun c0 => ?_) (fun c0 => ?_)
      · rw [ek] at c0
        refine kX6_change_27 ?_
        refine zb_go (zg_aload_n rfl) rfl ?_
        refine zb_go (zg_getfield fX6_44 (by first | decide | assumption | omega) (by repeat (first | assumption | exact z_up_self _ _ _ | refine (z_up_ne (by first | decide | omega)).trans ?_)) (by rfl)) rfl ?_
        refine zb_go (zg_iload_n rfl) rfl ?_
        refine zb_go (zi_iaload (by first | decide | assumption | omega) (by repeat (first | assumption | exact z_up_self _ _ _ | refine (z_up_ne (by first | decide | omega)).trans ?_)) i51) rfl ?_
        refine zb_go (zg_iload_n rfl) rfl ?_
        refine zb_br (zg_icmp_ne (tgt := 41) (by decide)) rfl (fun c1 => ?_) (fun c1 => ?_)
        · rw [ek] at c1
          refine kX6_change_41 ?_
          refine zb_go (zg_aload_n rfl) rfl ?_
          refine zb_go (zg_getfield fX6_44 (by first | decide | assumption | omega) (by repeat (first | assumption | exact z_up_self _ _ _ | refine (z_up_ne (by first | decide | omega)).trans ?_)) (by rfl)) rfl ?_
          refine zb_go (zg_iload_n rfl) rfl ?_
          refine zb_go (zi_iaload (by first | decide | assumption | omega) (by repeat (first | assumption | exact z_up_self _ _ _ | refine (z_up_ne (by first | decide | omega)).trans ?_)) i51) rfl ?_
          refine zb_out ?_
          refine go _ ?_
          rw [ek, swI, if_neg c0, if_neg c1]
        · rw [ek] at c1
          refine zb_go (zg_iload_n rfl) rfl ?_
          refine zb_end (zg_goto (tgt := 47) (by decide) ?_) rfl
          refine go _ ?_
          rw [swI, if_neg c0, if_pos c1]
      · rw [ek] at c0
        refine zb_go (zg_iload_n rfl) rfl ?_
        refine zb_end (zg_goto (tgt := 47) (by decide) ?_) rfl
        refine go _ ?_
        rw [swI, if_pos c0]
  refine kX6_change_0 ?_
  refine zb_go (zg_iconst 0 (by decide)) rfl ?_
  refine zb_go (zg_istore_n (by decide)) rfl ?_
  refine zb_out ?_
  have := lp 0 (by omega) F (fun j hj => by omega) (fun j _ => rfl)
  rw [z_up_id h46] at this
  exact this
theorem r_X6_exchange (hM : mRel h G) (ok : okS G) : zRex K l 2 mX6_exchange [.ref 34, .int x, .int y] 59 h (fun v h' => v = some (.int (sExch G x y).1) ∧ mRel h' (sExch G x y).2 ∧ zSame 34 58 h h') := by
  refine zRex.of (by decide) (Nat.le_of_ble_eq_true rfl) (fun Q hQ => ?_)
  obtain ⟨⟨at_, st, so, va, fa, to, mo, wa, fe, ev⟩, f, kf, h1, ⟨tx, hx, htx⟩, hP, h46, hN, h47, hkf, hI, hRm⟩ := id hM
  have hc : mCore h (gP G) f := ⟨⟨_, _, _, h1⟩, hP, h46⟩
  have h1 : h 34 = .inr _ := h1
  obtain ⟨⟨f1, a1, b1⟩, ⟨f2, a2, b2⟩, ⟨f3, a3, b3⟩, ⟨f4, a4, b4⟩, ⟨f5, a5, b5⟩, ⟨f6, a6, b6⟩, ⟨f7, a7, b7⟩, ⟨f8, a8⟩, ⟨f9, a9, b9⟩, ⟨f10, a10, b10⟩⟩ := id hP
  have okp := ok.1
  have okt := ok.2.1
  have kH := okp.1
  have kR := okp.2.1
  have bad : ¬ ((iR G x ∧ iR G y) ∧ x ≠ y) → zGo K l 2 mX6_exchange 21 (lv_args 0 [.ref 34, .int x, .int y]) [] 59 h 0 0 Q := by
    intro hn
    refine kX6_exchange_21 ?_
    refine zb_go (zg_iconst (-1) (by decide)) rfl ?_
    refine zb_end (zg_ireturn rfl (by rfl) ?_) rfl
    rw [sExch, zite_f hn] at hQ
    exact hQ _ _ ⟨rfl, hM, zSame.rf⟩
  refine kX6_exchange_0 ?_
  refine zb_go (zg_aload_n rfl) rfl ?_
  refine zb_go (zg_iload_n rfl) rfl ?_
  refine zb_callv (r_X6_isRinger hc okp) lX6_153 (by repeat (first | assumption | exact z_up_self _ _ _ | refine (z_up_ne (by first | decide | omega)).trans ?_)) rfl rfl (by first | decide | assumption | omega) (by first | decide | omega) rfl (Nat.le_of_ble_eq_true rfl) rfl ?_
  refine zb_br (zg_if_eq (tgt := 21) (by decide)) rfl (fun c0 => ?_) (fun c0 => ?_)
  · exact bad (fun q => zb_0.mp c0 q.1.1)
  · have c0 := zb_n.mp c0
    refine zb_go (zg_aload_n rfl) rfl ?_
    refine zb_go (zg_iload_n rfl) rfl ?_
    refine zb_callv (r_X6_isRinger hc okp) lX6_153 (by repeat (first | assumption | exact z_up_self _ _ _ | refine (z_up_ne (by first | decide | omega)).trans ?_)) rfl rfl (by first | decide | assumption | omega) (by first | decide | omega) rfl (Nat.le_of_ble_eq_true rfl) rfl ?_
    refine zb_br (zg_if_eq (tgt := 21) (by decide)) rfl (fun c1 => ?_) (fun c1 => ?_)
    · exact bad (fun q => zb_0.mp c1 q.1.2)
    · have c1 := zb_n.mp c1
      refine zb_go (zg_iload_n rfl) rfl ?_
      refine zb_go (zg_iload_n rfl) rfl ?_
      refine zb_br (zg_icmp_ne (tgt := 23) (by decide)) rfl (fun c2 => ?_) (fun c2 => ?_)
      · rw [sExch, zite_t ⟨⟨c0, c1⟩, c2⟩] at hQ
        obtain ⟨r, hr, rfl⟩ := z_isIx (by omega) c0
        obtain ⟨q, hq, rfl⟩ := z_isIx (by omega) c1
        rw [nI_clamp (by omega), nI_clamp (by omega)] at hQ
        have hrq : r ≠ q := fun z => c2 (by rw [z])
        have hr6 : r < 6 := by omega
        have hq6 : q < 6 := by omega
        refine kX6_exchange_23 ?_
        refine zb_go (zg_aload_n rfl) rfl ?_
        refine zb_go (zg_iload_n rfl) rfl ?_
        refine zb_go (zg_iload_n rfl) rfl ?_
        refine zb_callvx (r_X6_change (F := f) hc.1 h46) lX6_169 (by repeat (first | assumption | exact z_up_self _ _ _ | refine (z_up_ne (by first | decide | omega)).trans ?_)) rfl rfl (by first | decide | assumption | omega) (by first | decide | omega) rfl (Nat.le_of_ble_eq_true rfl) rfl ?_
        rintro v h2 ⟨rfl, F, rfl, hF1, hF2⟩
        have hcF := hc.up F
        have s1 : zSame 34 58 h (z_up h 46 (.inl (0, 51, .inl F))) := zSame.rf.up (by omega) (by omega)
        have h1' : z_up h 46 (.inl (0, 51, .inl F)) 34 = _ := (z_up_ne (by decide)).trans h1
        have h46' : z_up h 46 (.inl (0, 51, .inl F)) 46 = .inl (0, 51, .inl F) := z_up_self _ _ _
        have hbr : ∀ g b, g < 4 → b < 3 → (F (3 * g + b) = nI r ↔ (gT G).1 q g = b + 1) := fun g b hg hb => by
          rw [hF1 _ (by omega), ← hN.bell okt hq6 hg hb, swI]
          by_cases a : f (3 * g + b) = nI r
          · rw [if_pos a, a]; exact ⟨fun z => z.symm, fun z => z.symm⟩
          · rw [if_neg a]
            by_cases e : f (3 * g + b) = nI q
            · rw [if_pos e]; exact ⟨fun _ => e, fun _ => rfl⟩
            · rw [if_neg e]; exact ⟨fun z => absurd z a, fun z => absurd z e⟩
        have hbq : ∀ g b, g < 4 → b < 3 → (F (3 * g + b) = nI q ↔ (gT G).1 r g = b + 1) := fun g b hg hb => by
          rw [hF1 _ (by omega), ← hN.bell okt hr6 hg hb, swI]
          by_cases a : f (3 * g + b) = nI r
          · rw [if_pos a, a]; exact ⟨fun _ => rfl, fun _ => rfl⟩
          · rw [if_neg a]
            by_cases e : f (3 * g + b) = nI q
            · rw [if_pos e, e]; exact ⟨fun z => z.symm, fun z => z.symm⟩
            · rw [if_neg e]; exact ⟨fun z => absurd z e, fun z => absurd z a⟩
        have l1 := canTake_law okp okt hr hq6 hbr
        have l2 := canTake_law okp okt hq hr6 hbq
        have no : ¬ (canTake (gP G) (gT G) r q ∧ canTake (gP G) (gT G) q r) → zGo K l 2 mX6_exchange 45 (lv_args 0 [.ref 34, .int (nI r), .int (nI q)]) [] 59 (z_up h 46 (.inl (0, 51, .inl F))) 0 0 Q := by
          intro hn
          rw [zite_f hn] at hQ
          refine kX6_exchange_45 ?_
          refine zb_go (zg_aload_n rfl) rfl ?_
          refine zb_go (zg_iload_n rfl) rfl ?_
          refine zb_go (zg_iload_n rfl) rfl ?_
          refine zb_callvx (r_X6_change (F := F) hcF.1 h46') lX6_169 (by repeat (first | assumption | exact z_up_self _ _ _ | refine (z_up_ne (by first | decide | omega)).trans ?_)) rfl rfl (by first | decide | assumption | omega) (by first | decide | omega) rfl (Nat.le_of_ble_eq_true rfl) rfl ?_
          rintro v h2 ⟨rfl, F2, rfl, hE1, hE2⟩
          have e : F2 = f := by
            funext j
            rcases Nat.lt_or_ge j 12 with w | w
            · rw [hE1 j w, hF1 j w, swI_swI]
            · rw [hE2 j w, hF2 j w]
          rw [z_up_up, e, z_up_id h46]
          refine zb_go (zg_bipush (-2) (by decide)) rfl ?_
          refine zb_end (zg_ireturn rfl (by rfl) ?_) rfl
          exact hQ _ _ ⟨rfl, hM, zSame.rf⟩
        refine zb_go (zg_aload_n rfl) rfl ?_
        refine zb_go (zg_iload_n rfl) rfl ?_
        refine zb_callv (r_X6_isLawful hcF okp hr) lX6_163 (by repeat (first | assumption | exact z_up_self _ _ _ | refine (z_up_ne (by first | decide | omega)).trans ?_)) rfl rfl (by first | decide | assumption | omega) (by first | decide | omega) rfl (Nat.le_of_ble_eq_true rfl) rfl ?_
        refine zb_br (zg_if_eq (tgt := 45) (by decide)) rfl (fun c3 => ?_) (fun c3 => ?_)
        · exact no (fun z => by rw [l1.mpr z.1] at c3; exact absurd c3 (by decide))
        · have c3 := l1.mp (bI_n.mp c3)
          refine zb_go (zg_aload_n rfl) rfl ?_
          refine zb_go (zg_iload_n rfl) rfl ?_
          refine zb_callv (r_X6_isLawful hcF okp hq) lX6_163 (by repeat (first | assumption | exact z_up_self _ _ _ | refine (z_up_ne (by first | decide | omega)).trans ?_)) rfl rfl (by first | decide | assumption | omega) (by first | decide | omega) rfl (Nat.le_of_ble_eq_true rfl) rfl ?_
          refine zb_br (zg_if_ne (tgt := 54) (by decide)) rfl (fun c4 => ?_) (fun c4 => ?_)
          · have c4 := l2.mp (bI_n.mp c4)
            rw [zite_t ⟨c3, c4⟩] at hQ
            have hN2 := hN.swap okt hr6 hq6 hrq hF1 hF2
            have okt2 := okt.swap hr hq hr6 hq6 c3 c4
            refine kX6_exchange_54 ?_
            refine zb_go (zg_aload_n rfl) rfl ?_
            refine zb_go (zg_iload_n rfl) rfl ?_
            refine zb_callv (r_X6_timesOf hcF okp) lX6_147 (by repeat (first | assumption | exact z_up_self _ _ _ | refine (z_up_ne (by first | decide | omega)).trans ?_)) rfl rfl (by first | decide | assumption | omega) (by first | decide | omega) rfl (Nat.le_of_ble_eq_true rfl) rfl ?_
            refine zb_go (zg_aload_n rfl) rfl ?_
            refine zb_go (zg_iload_n rfl) rfl ?_
            refine zb_callv (r_X6_timesOf hcF okp) lX6_147 (by repeat (first | assumption | exact z_up_self _ _ _ | refine (z_up_ne (by first | decide | omega)).trans ?_)) rfl rfl (by first | decide | assumption | omega) (by first | decide | omega) rfl (Nat.le_of_ble_eq_true rfl) rfl ?_
            refine zb_go zg_iadd rfl ?_
            refine zb_end (zg_ireturn rfl (by rfl) ?_) rfl
            rw [hN2.tm okp okt2 hr6, hN2.tm okp okt2 hq6, tN_swap_r, tN_swap_q hrq, nI_add]
            exact hQ _ _ ⟨rfl, hM.now h46 hN2 (fun j hj => hF2 j (by omega)), s1⟩
          · refine zb_out ?_
            exact no (fun z => by rw [l2.mpr z.2] at c4; exact absurd c4 (by decide))
      · refine zb_out ?_
        exact bad (fun q => q.2 c2)
end
