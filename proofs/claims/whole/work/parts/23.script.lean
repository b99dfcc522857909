/-! SCRIPT: what reads the text -/
section
variable {K : zK} {l : Launch} {n p q i : Nat} {len : Nat} {f tx nu to : Nat → Int32} {h : zH} {fa pl x y : Int32} {P : zP}
/-- what stays of the script behind a reader's step -/
def sScr (h h' : zH) (len : Nat) (tx : Nat → Int32) (pl fa : Int32) (nu to : Nat → Int32) : Prop := isScript h' (nI len) pl fa tx nu to ∧ zSame 1 4 h h'
theorem isScript.setPl {pl' : Int32} (hs : isScript h (nI len) pl fa tx nu to) : isScript (z_up h 1 (.inr (3, [.int (nI len), .ref 2, .int pl', .int fa, .ref 3, .ref 4]))) (nI len) pl' fa tx nu to :=
  ⟨z_up_self _ _ _, (z_up_ne (by decide)).trans hs.2.1, (z_up_ne (by decide)).trans hs.2.2.1, (z_up_ne (by decide)).trans hs.2.2.2⟩
theorem isScript.setFa {fa' : Int32} (hs : isScript h (nI len) pl fa tx nu to) : isScript (z_up h 1 (.inr (3, [.int (nI len), .ref 2, .int pl, .int fa', .ref 3, .ref 4]))) (nI len) pl fa' tx nu to :=
  ⟨z_up_self _ _ _, (z_up_ne (by decide)).trans hs.2.1, (z_up_ne (by decide)).trans hs.2.2.1, (z_up_ne (by decide)).trans hs.2.2.2⟩
theorem r_X4_skipBlanks (hs : isScript h (nI len) (nI i) fa tx nu to) (hl : len ≤ 200) (hi : i ≤ len) (hf : ∀ j, j < len → tx j = f j) : zRex K l 0 mX4_skipBlanks [.ref 1] 59 h (fun v h' => v = none ∧ isScript h' (nI len) (nI (pSk f len i)) fa tx nu to ∧ zSame 1 4 h h') := by
  refine zRex.of (by decide) (Nat.le_of_ble_eq_true rfl) (fun Q hQ => ?_)
  have lp : ∀ j k h0, len ≤ k + j → k ≤ len → isScript h0 (nI len) (nI k) fa tx nu to → zSame 1 4 h h0 → pRun (pBl f) len j k = pSk f len i → zGo K l 0 mX4_skipBlanks 0 [(0, .ref 1)] [] 59 h0 0 0 Q := by
    intro j
    induction j with
    | zero =>
      intro k h0 hk hkl hs0 hsm he
      obtain ⟨g1, g2, g3, g4⟩ := id hs0
      have he : k = pSk f len i := he
      refine kX4_skipBlanks_0 ?_
      refine zb_go (zg_aload_n rfl) rfl ?_
      refine zb_go (zg_getfield fX4_19 (by first | assumption | decide | omega) (by repeat (first | assumption | exact z_up_self _ _ _ | refine (z_up_ne (by first | decide | omega)).trans ?_)) (by rfl)) rfl ?_
      refine zb_go (zg_aload_n rfl) rfl ?_
      refine zb_go (zg_getfield fX4_11 (by first | assumption | decide | omega) (by repeat (first | assumption | exact z_up_self _ _ _ | refine (z_up_ne (by first | decide | omega)).trans ?_)) (by rfl)) rfl ?_
      refine zb_br (zg_icmp_ge (tgt := 38) (by decide)) rfl (fun c => ?_) (fun c => ?_)
      · refine kX4_skipBlanks_38 ?_
        refine zb_end (zg_return rfl ?_) rfl
        rw [he] at hs0
        exact hQ _ _ ⟨rfl, hs0, hsm⟩
      · exact absurd (nI_le (show len ≤ k by omega) (by omega)) c
    | succ j ih =>
      intro k h0 hk hkl hs0 hsm he
      obtain ⟨g1, g2, g3, g4⟩ := id hs0
      simp only [pRun] at he
      refine kX4_skipBlanks_0 ?_
      refine zb_go (zg_aload_n rfl) rfl ?_
      refine zb_go (zg_getfield fX4_19 (by first | assumption | decide | omega) (by repeat (first | assumption | exact z_up_self _ _ _ | refine (z_up_ne (by first | decide | omega)).trans ?_)) (by rfl)) rfl ?_
      refine zb_go (zg_aload_n rfl) rfl ?_
      refine zb_go (zg_getfield fX4_11 (by first | assumption | decide | omega) (by repeat (first | assumption | exact z_up_self _ _ _ | refine (z_up_ne (by first | decide | omega)).trans ?_)) (by rfl)) rfl ?_
      refine zb_br (zg_icmp_ge (tgt := 38) (by decide)) rfl (fun c0 => ?_) (fun c0 => ?_)
      · have c0 := (nI_leI (by omega) (by omega)).mp c0
        rw [if_neg (by omega)] at he
        refine kX4_skipBlanks_38 ?_
        refine zb_end (zg_return rfl ?_) rfl
        rw [he] at hs0
        exact hQ _ _ ⟨rfl, hs0, hsm⟩
      · have hkl : k < len := Nat.not_le.mp (fun q => c0 (nI_le q (by omega)))
        refine zb_go (zg_aload_n rfl) rfl ?_
        refine zb_go (zg_getfield fX4_15 (by first | assumption | decide | omega) (by repeat (first | assumption | exact z_up_self _ _ _ | refine (z_up_ne (by first | decide | omega)).trans ?_)) (by rfl)) rfl ?_
        refine zb_go (zg_aload_n rfl) rfl ?_
        refine zb_go (zg_getfield fX4_19 (by first | assumption | decide | omega) (by repeat (first | assumption | exact z_up_self _ _ _ | refine (z_up_ne (by first | decide | omega)).trans ?_)) (by rfl)) rfl ?_
        refine zb_go (zi_baload (by first | assumption | decide | omega) (by repeat (first | assumption | exact z_up_self _ _ _ | refine (z_up_ne (by first | decide | omega)).trans ?_)) (zIx.nI (show k < 200 by omega) (by decide))) rfl ?_
        refine zb_go (zg_bipush 32 (by decide)) rfl ?_
        refine zb_br (zg_icmp_ne (tgt := 38) (by decide)) rfl (fun c1 => ?_) (fun c1 => ?_)
        · rw [hf k hkl] at c1
          rw [if_neg (fun q => c1 (of_decide_eq_true q.2))] at he
          refine kX4_skipBlanks_38 ?_
          refine zb_end (zg_return rfl ?_) rfl
          rw [he] at hs0
          exact hQ _ _ ⟨rfl, hs0, hsm⟩
        · rw [hf k hkl] at c1
          rw [if_pos ⟨hkl, decide_eq_true c1⟩] at he
          refine zb_go (zg_aload_n rfl) rfl ?_
          refine zb_go (zg_dup rfl) rfl ?_
          refine zb_go (zg_getfield fX4_19 (by first | assumption | decide | omega) (by repeat (first | assumption | exact z_up_self _ _ _ | refine (z_up_ne (by first | decide | omega)).trans ?_)) (by rfl)) rfl ?_
          refine zb_go (zg_iconst 1 (by decide)) rfl ?_
          refine zb_go zg_iadd rfl ?_
          refine zb_go (zg_putfield fX4_19 (by first | assumption | decide | omega) (by repeat (first | assumption | exact z_up_self _ _ _ | refine (z_up_ne (by first | decide | omega)).trans ?_)) (by exact Nat.le_of_ble_eq_true rfl) (by rfl) (by rfl) (by first | exact Or.inl rfl | exact Or.inr ⟨rfl, rfl⟩)) rfl ?_
          refine zb_end (zg_goto (tgt := 0) (by decide) ?_) rfl
          rw [nI_1]
          exact ih (k + 1) _ (by omega) (by omega) hs0.setPl (hsm.up (by omega) (by omega)) he
  exact lp 200 i h (by omega) hi hs zSame.rf rfl
theorem r_X4_nameOf (hi : i < 5) : zRet K l 0 mX4_nameOf [.int (nI i)] 59 h (some (.ref (1000 + i))) h := by
  refine zRet.of (by decide) (Nat.le_of_ble_eq_true rfl) (fun Q hQ => ?_)
  refine kX4_nameOf_0 ?_
  refine zb_go (zg_iload_n rfl) rfl ?_
  rcases (show i = 0 ∨ i = 1 ∨ i = 2 ∨ i = 3 ∨ i = 4 by omega) with rfl | rfl | rfl | rfl | rfl
  · refine zb_end (len := 31) (zg_tableIn 31 32 (by decide) (by decide) (by rfl) (by decide) ?_) rfl
    refine kX4_nameOf_32 ?_
    refine zb_go (zg_ldcS 0 (by decide) rfl rfl) rfl ?_
    refine zb_end (zg_areturn rfl (Or.inl ⟨_, rfl⟩) ?_) rfl
    exact hQ
  · refine zb_end (len := 31) (zg_tableIn 34 35 (by decide) (by decide) (by rfl) (by decide) ?_) rfl
    refine kX4_nameOf_35 ?_
    refine zb_go (zg_ldcS 1 (by decide) rfl rfl) rfl ?_
    refine zb_end (zg_areturn rfl (Or.inl ⟨_, rfl⟩) ?_) rfl
    exact hQ
  · refine zb_end (len := 31) (zg_tableIn 37 38 (by decide) (by decide) (by rfl) (by decide) ?_) rfl
    refine kX4_nameOf_38 ?_
    refine zb_go (zg_ldcS 2 (by decide) rfl rfl) rfl ?_
    refine zb_end (zg_areturn rfl (Or.inl ⟨_, rfl⟩) ?_) rfl
    exact hQ
  · refine zb_end (len := 31) (zg_tableIn 40 41 (by decide) (by decide) (by rfl) (by decide) ?_) rfl
    refine kX4_nameOf_41 ?_
    refine zb_go (zg_ldcS 3 (by decide) rfl rfl) rfl ?_
    refine zb_end (zg_areturn rfl (Or.inl ⟨_, rfl⟩) ?_) rfl
    exact hQ
  · refine zb_end (len := 31) (zg_tableOut 44 (Or.inr (by decide)) (by decide) ?_) rfl
    refine kX4_nameOf_44 ?_
    refine zb_go (zg_ldcS 4 (by decide) rfl rfl) rfl ?_
    refine zb_end (zg_areturn rfl (Or.inl ⟨_, rfl⟩) ?_) rfl
    exact hQ
theorem r_X4_isWord {k a b : Nat} (hK : zKok K) (hs : isScript h (nI len) pl fa tx nu to) (hl : len ≤ 200) (hk : k < 5) (hab : a ≤ b) (hb : b ≤ len) (hf : ∀ j, j < len → tx j = f j) : zRex K l 4 mX4_isWord [.ref 1, .ref (1000 + k), .int (nI a), .int (nI b)] 59 h (fun v h' => h' = h ∧ zIf (z_len.getD k 0 = b - a ∧ ∀ t, t < z_len.getD k 0 → f (a + t) = (z_byt.getD k []).getD t 0) v) := by
  refine zRex.of (by decide) (Nat.le_of_ble_eq_true rfl) (fun Q hQ => ?_)
  obtain ⟨h1, h2, h3, h4⟩ := id hs
  have hlen : z_len.getD k 0 ≤ 6 := (by decide : ∀ i, i < 5 → z_len.getD i 0 ≤ 6) k hk
  have no : ¬ (z_len.getD k 0 = b - a ∧ ∀ t, t < z_len.getD k 0 → f (a + t) = (z_byt.getD k []).getD t 0) → zGo K l 4 mX4_isWord 18 (lv_args 0 [.ref 1, .ref (1000 + k), .int (nI a), .int (nI b)]) [] 59 h 0 0 Q := by
    intro hn
    refine kX4_isWord_18 ?_
    refine zb_go (zg_iconst 0 (by decide)) rfl ?_
    refine zb_end (zg_ireturn rfl (by rfl) ?_) rfl
    exact hQ _ _ ⟨rfl, Or.inr ⟨hn, rfl⟩⟩
  have lp : z_len.getD k 0 = b - a → ∀ j, j ≤ z_len.getD k 0 → (∀ t, t < j → f (a + t) = (z_byt.getD k []).getD t 0) → zGo K l 4 mX4_isWord 23 [(0, .ref 1), (1, .ref (1000 + k)), (2, .int (nI a)), (3, .int (nI b)), (4, .int (nI j))] [] 59 h 0 0 Q := by
    intro hlab
    refine z_down _ (fun j hj ih hn => ?_)
    refine kX4_isWord_23 ?_
    refine zb_go (zg_iload rfl) rfl ?_
    refine zb_go (zg_aload_n rfl) rfl ?_
    refine zb_callS hk (r_S_length hK hk) lX4_82 rfl rfl (by decide) rfl (Nat.le_of_ble_eq_true rfl) rfl ?_
    refine zb_br (zg_icmp_ge (tgt := 58) (by decide)) rfl (fun c0 => ?_) (fun c0 => ?_)
    · have e : j = z_len.getD k 0 := by
        have := (nI_leI (by omega) (by omega)).mp c0
        omega
      subst e
      refine kX4_isWord_58 ?_
      refine zb_go (zg_iconst 1 (by decide)) rfl ?_
      refine zb_end (zg_ireturn rfl (by rfl) ?_) rfl
      exact hQ _ _ ⟨rfl, Or.inl ⟨⟨hlab, hn⟩, rfl⟩⟩
    · have hjl : j < z_len.getD k 0 := Nat.not_le.mp (fun q => c0 (nI_le q (by omega)))
      refine zb_go (zg_aload_n rfl) rfl ?_
      refine zb_go (zg_getfield fX4_15 (by first | assumption | decide | omega) (by repeat (first | assumption | exact z_up_self _ _ _ | refine (z_up_ne (by first | decide | omega)).trans ?_)) (by rfl)) rfl ?_
      refine zb_go (zg_iload_n rfl) rfl ?_
      refine zb_go (zg_iload rfl) rfl ?_
      refine zb_go zg_iadd rfl ?_
      rw [nI_add]
      refine zb_go (zi_baload (by first | assumption | decide | omega) (by repeat (first | assumption | exact z_up_self _ _ _ | refine (z_up_ne (by first | decide | omega)).trans ?_)) (zIx.nI (show a + j < 200 by omega) (by decide))) rfl ?_
      refine zb_go (zg_aload_n rfl) rfl ?_
      refine zb_go (zg_iload rfl) rfl ?_
      refine zb_callS hk (r_S_charAt hK hk hjl) lX4_86 rfl rfl (by decide) rfl (Nat.le_of_ble_eq_true rfl) rfl ?_
      rw [hf (a + j) (by omega)]
      refine zb_br (zg_icmp_eq (tgt := 52) (by decide)) rfl (fun c1 => ?_) (fun c1 => ?_)
      · refine kX4_isWord_52 ?_
        refine zb_go (zg_iinc 1 (by decide) rfl (by decide)) rfl ?_
        refine zb_end (zg_goto (tgt := 23) (by decide) ?_) rfl
        rw [nI_1]
        refine ih hjl (fun t ht => ?_)
        rcases Nat.lt_or_ge t j with z | z
        · exact hn t z
        · rw [show t = j by omega]; exact c1
      · refine zb_go (zg_iconst 0 (by decide)) rfl ?_
        refine zb_end (zg_ireturn rfl (by rfl) ?_) rfl
        exact hQ _ _ ⟨rfl, Or.inr ⟨fun z => c1 (z.2 j hjl), rfl⟩⟩
  refine kX4_isWord_0 ?_
  refine zb_go (zg_aload_n rfl) rfl ?_
  refine zb_callS hk (r_S_length hK hk) lX4_82 rfl rfl (by decide) rfl (Nat.le_of_ble_eq_true rfl) rfl ?_
  refine zb_go (zg_iload_n rfl) rfl ?_
  refine zb_go (zg_iload_n rfl) rfl ?_
  refine zb_go zg_isub rfl ?_
  rw [pk_sub hab]
  refine zb_br (zg_icmp_ne (tgt := 18) (by decide)) rfl (fun c0 => ?_) (fun c0 => ?_)
  · exact no (fun z => c0 (by rw [z.1]))
  · have c0 := (nI_eq (by omega) (by omega)).mp c0
    refine zb_go (zg_iload_n rfl) rfl ?_
    refine zb_go (zg_aload_n rfl) rfl ?_
    refine zb_go (zg_getfield fX4_11 (by first | assumption | decide | omega) (by repeat (first | assumption | exact z_up_self _ _ _ | refine (z_up_ne (by first | decide | omega)).trans ?_)) (by rfl)) rfl ?_
    refine zb_br (zg_icmp_le (tgt := 20) (by decide)) rfl (fun c1 => ?_) (fun c1 => ?_)
    · refine kX4_isWord_20 ?_
      refine zb_go (zg_iconst 0 (by decide)) rfl ?_
      refine zb_go (zg_istore (by decide)) rfl ?_
      refine zb_out ?_
      exact lp c0 0 (Nat.zero_le _) (fun t ht => absurd ht (Nat.not_lt_zero _))
    · exact absurd (nI_le hb (by omega)) c1
theorem r_X4_kindOfWord (hK : zKok K) (hs : isScript h (nI len) (nI i) fa tx nu to) (hl : len ≤ 200) (hi : i ≤ len) (hf : ∀ j, j < len → tx j = f j) : zRex K l 5 mX4_kindOfWord [.ref 1] 59 h (fun v h' => v = some (.int (oI (pKind f len i))) ∧ isScript h' (nI len) (nI (pLt f len i)) fa tx nu to ∧ zSame 1 4 h h') := by
  refine zRex.of (by decide) (Nat.le_of_ble_eq_true rfl) (fun Q hQ => ?_)
  have hge : i ≤ pLt f len i := pRun_ge _ _ _ _
  have hle := pLt_le (f := f) hi
  have lp2 : ∀ k, k ≤ 5 → ∀ h0, isScript h0 (nI len) (nI (pLt f len i)) fa tx nu to → zSame 1 4 h h0 → (∀ t, t < k → (decide (z_len.getD t 0 = pLt f len i - i) && zall (fun s => decide (f (i + s) = (z_byt.getD t []).getD s 0)) (z_len.getD t 0)) = false) → zGo K l 5 mX4_kindOfWord 59 [(0, .ref 1), (1, .int (nI i)), (2, .int (nI k))] [] 59 h0 0 0 Q := by
    refine z_down 5 (fun k hk ih h0 hs0 hsm hn => ?_)
    obtain ⟨g1, g2, g3, g4⟩ := id hs0
    refine kX4_kindOfWord_59 ?_
    refine zb_go (zg_iload_n rfl) rfl ?_
    refine zb_go (zg_iconst 5 (by decide)) rfl ?_
    refine zb_br (zg_icmp_ge (tgt := 88) (by decide)) rfl (fun c0 => ?_) (fun c0 => ?_)
    · have e : k = 5 := by
        have := (nI_leI (a := 5) (b := k) (by decide) (by omega)).mp c0
        omega
      subst e
      refine kX4_kindOfWord_88 ?_
      refine zb_go (zg_bipush (-9) (by decide)) rfl ?_
      refine zb_end (zg_ireturn rfl (by rfl) ?_) rfl
      refine hQ _ _ ⟨?_, hs0, hsm⟩
      unfold pKind
      rw [zfst_none hn]
      rfl
    · have hk5 : k < 5 := Nat.not_le.mp (fun q => c0 (nI_le q (by omega)))
      refine zb_go (zg_aload_n rfl) rfl ?_
      refine zb_go (zg_iload_n rfl) rfl ?_
      refine zb_calls (r_X4_nameOf hk5) lX4_64 rfl (by decide) rfl (Nat.le_of_ble_eq_true rfl) rfl ?_
      refine zb_go (zg_iload_n rfl) rfl ?_
      refine zb_go (zg_aload_n rfl) rfl ?_
      refine zb_go (zg_getfield fX4_19 (by first | assumption | decide | omega) (by repeat (first | assumption | exact z_up_self _ _ _ | refine (z_up_ne (by first | decide | omega)).trans ?_)) (by rfl)) rfl ?_
      refine zb_callvx (r_X4_isWord (f := f) hK hs0 hl hk5 hge hle hf) lX4_68 (by assumption) rfl rfl (by decide) (by decide) rfl (Nat.le_of_ble_eq_true rfl) rfl ?_
      rintro v h' ⟨rfl, hv⟩
      have hiff : (z_len.getD k 0 = pLt f len i - i ∧ ∀ t, t < z_len.getD k 0 → f (i + t) = (z_byt.getD k []).getD t 0) ↔ (decide (z_len.getD k 0 = pLt f len i - i) && zall (fun s => decide (f (i + s) = (z_byt.getD k []).getD s 0)) (z_len.getD k 0)) = true := by
        rw [Bool.and_eq_true, decide_eq_true_eq, zall_iff]
        exact ⟨fun z => ⟨z.1, fun t ht => decide_eq_true (z.2 t ht)⟩, fun z => ⟨z.1, fun t ht => of_decide_eq_true (z.2 t ht)⟩⟩
      rcases hv with ⟨hv, rfl⟩ | ⟨hv, rfl⟩
      · refine zb_br (zg_if_eq (tgt := 82) (by decide)) rfl (fun c1 => ?_) (fun c1 => ?_)
        · exact absurd c1 (by decide)
        · refine zb_go (zg_iload_n rfl) rfl ?_
          refine zb_end (zg_ireturn rfl (by rfl) ?_) rfl
          refine hQ _ _ ⟨?_, hs0, hsm⟩
          unfold pKind
          rw [zfst_some hk5 (hiff.mp hv) hn]
          rfl
      · refine zb_br (zg_if_eq (tgt := 82) (by decide)) rfl (fun c1 => ?_) (fun c1 => ?_)
        · refine kX4_kindOfWord_82 ?_
          refine zb_go (zg_iinc 1 (by decide) rfl (by decide)) rfl ?_
          refine zb_end (zg_goto (tgt := 59) (by decide) ?_) rfl
          rw [nI_1]
          refine ih hk5 _ hs0 hsm (fun t ht => ?_)
          rcases Nat.lt_or_ge t k with z | z
          · exact hn t z
          · rw [show t = k by omega]
            exact Bool.eq_false_iff.mpr (fun z => hv (hiff.mpr z))
        · exact absurd rfl c1
  have lp : ∀ j k h0, len ≤ k + j → k ≤ len → isScript h0 (nI len) (nI k) fa tx nu to → zSame 1 4 h h0 → pRun (pAz f) len j k = pLt f len i → zGo K l 5 mX4_kindOfWord 5 [(0, .ref 1), (1, .int (nI i))] [] 59 h0 0 0 Q := by
    intro j
    have fin : ∀ k h0, isScript h0 (nI len) (nI k) fa tx nu to → zSame 1 4 h h0 → k = pLt f len i → zGo K l 5 mX4_kindOfWord 57 [(0, .ref 1), (1, .int (nI i))] [] 59 h0 0 0 Q := by
      intro k h0 hs0 hsm he
      refine kX4_kindOfWord_57 ?_
      refine zb_go (zg_iconst 0 (by decide)) rfl ?_
      refine zb_go (zg_istore_n (by decide)) rfl ?_
      refine zb_out ?_
      rw [he] at hs0
      exact lp2 0 (by omega) h0 hs0 hsm (fun t ht => absurd ht (Nat.not_lt_zero _))
    induction j with
    | zero =>
      intro k h0 hk hkl hs0 hsm he
      obtain ⟨g1, g2, g3, g4⟩ := id hs0
      refine kX4_kindOfWord_5 ?_
      refine zb_go (zg_aload_n rfl) rfl ?_
      refine zb_go (zg_getfield fX4_19 (by first | assumption | decide | omega) (by repeat (first | assumption | exact z_up_self _ _ _ | refine (z_up_ne (by first | decide | omega)).trans ?_)) (by rfl)) rfl ?_
      refine zb_go (zg_aload_n rfl) rfl ?_
      refine zb_go (zg_getfield fX4_11 (by first | assumption | decide | omega) (by repeat (first | assumption | exact z_up_self _ _ _ | refine (z_up_ne (by first | decide | omega)).trans ?_)) (by rfl)) rfl ?_
      refine zb_br (zg_icmp_ge (tgt := 57) (by decide)) rfl (fun c => ?_) (fun c => ?_)
      · exact fin k h0 hs0 hsm he
      · exact absurd (nI_le (show len ≤ k by omega) (by omega)) c
    | succ j ih =>
      intro k h0 hk hkl hs0 hsm he
      obtain ⟨g1, g2, g3, g4⟩ := id hs0
      simp only [pRun] at he
      refine kX4_kindOfWord_5 ?_
      refine zb_go (zg_aload_n rfl) rfl ?_
      refine zb_go (zg_getfield fX4_19 (by first | assumption | decide | omega) (by repeat (first | assumption | exact z_up_self _ _ _ | refine (z_up_ne (by first | decide | omega)).trans ?_)) (by rfl)) rfl ?_
      refine zb_go (zg_aload_n rfl) rfl ?_
      refine zb_go (zg_getfield fX4_11 (by first | assumption | decide | omega) (by repeat (first | assumption | exact z_up_self _ _ _ | refine (z_up_ne (by first | decide | omega)).trans ?_)) (by rfl)) rfl ?_
      refine zb_br (zg_icmp_ge (tgt := 57) (by decide)) rfl (fun c0 => ?_) (fun c0 => ?_)
      · have c0 := (nI_leI (by omega) (by omega)).mp c0
        rw [if_neg (by omega)] at he
        exact fin k h0 hs0 hsm he
      · have hkl : k < len := Nat.not_le.mp (fun q => c0 (nI_le q (by omega)))
        refine zb_go (zg_aload_n rfl) rfl ?_
        refine zb_go (zg_getfield fX4_15 (by first | assumption | decide | omega) (by repeat (first | assumption | exact z_up_self _ _ _ | refine (z_up_ne (by first | decide | omega)).trans ?_)) (by rfl)) rfl ?_
        refine zb_go (zg_aload_n rfl) rfl ?_
        refine zb_go (zg_getfield fX4_19 (by first | assumption | decide | omega) (by repeat (first | assumption | exact z_up_self _ _ _ | refine (z_up_ne (by first | decide | omega)).trans ?_)) (by rfl)) rfl ?_
        refine zb_go (zi_baload (by first | assumption | decide | omega) (by repeat (first | assumption | exact z_up_self _ _ _ | refine (z_up_ne (by first | decide | omega)).trans ?_)) (zIx.nI (show k < 200 by omega) (by decide))) rfl ?_
        refine zb_go (zg_bipush 97 (by decide)) rfl ?_
        refine zb_br (zg_icmp_lt (tgt := 57) (by decide)) rfl (fun c1 => ?_) (fun c1 => ?_)
        · rw [hf k hkl] at c1
          have hz : pAz f k = false := by unfold pAz; rw [decide_eq_false (Int32.not_le.mpr c1)]; rfl
          rw [if_neg (fun q => by rw [hz] at q; exact absurd q.2 (by decide))] at he
          exact fin k h0 hs0 hsm he
        · rw [hf k hkl] at c1
          refine zb_go (zg_aload_n rfl) rfl ?_
          refine zb_go (zg_getfield fX4_15 (by first | assumption | decide | omega) (by repeat (first | assumption | exact z_up_self _ _ _ | refine (z_up_ne (by first | decide | omega)).trans ?_)) (by rfl)) rfl ?_
          refine zb_go (zg_aload_n rfl) rfl ?_
          refine zb_go (zg_getfield fX4_19 (by first | assumption | decide | omega) (by repeat (first | assumption | exact z_up_self _ _ _ | refine (z_up_ne (by first | decide | omega)).trans ?_)) (by rfl)) rfl ?_
          refine zb_go (zi_baload (by first | assumption | decide | omega) (by repeat (first | assumption | exact z_up_self _ _ _ | refine (z_up_ne (by first | decide | omega)).trans ?_)) (zIx.nI (show k < 200 by omega) (by decide))) rfl ?_
          refine zb_go (zg_bipush 122 (by decide)) rfl ?_
          refine zb_br (zg_icmp_gt (tgt := 57) (by decide)) rfl (fun c2 => ?_) (fun c2 => ?_)
          · rw [hf k hkl] at c2
            have hz : pAz f k = false := by unfold pAz; rw [decide_eq_false (Int32.not_le.mpr c2), Bool.and_false]
            rw [if_neg (fun q => by rw [hz] at q; exact absurd q.2 (by decide))] at he
            exact fin k h0 hs0 hsm he
          · rw [hf k hkl] at c2
            have hz : pAz f k = true := by unfold pAz; rw [decide_eq_true (Int32.not_lt.mp c1), decide_eq_true (Int32.not_lt.mp c2)]; rfl
            rw [if_pos ⟨hkl, hz⟩] at he
            refine zb_go (zg_aload_n rfl) rfl ?_
            refine zb_go (zg_dup rfl) rfl ?_
            refine zb_go (zg_getfield fX4_19 (by first | assumption | decide | omega) (by repeat (first | assumption | exact z_up_self _ _ _ | refine (z_up_ne (by first | decide | omega)).trans ?_)) (by rfl)) rfl ?_
            refine zb_go (zg_iconst 1 (by decide)) rfl ?_
            refine zb_go zg_iadd rfl ?_
            refine zb_go (zg_putfield fX4_19 (by first | assumption | decide | omega) (by repeat (first | assumption | exact z_up_self _ _ _ | refine (z_up_ne (by first | decide | omega)).trans ?_)) (by exact Nat.le_of_ble_eq_true rfl) (by rfl) (by rfl) (by first | exact Or.inl rfl | exact Or.inr ⟨rfl, rfl⟩)) rfl ?_
            refine zb_end (zg_goto (tgt := 5) (by decide) ?_) rfl
            rw [nI_1]
            exact ih (k + 1) _ (by omega) (by omega) hs0.setPl (hsm.up (by omega) (by omega)) he
  obtain ⟨h1, h2, h3, h4⟩ := id hs
  refine kX4_kindOfWord_0 ?_
  refine zb_go (zg_aload_n rfl) rfl ?_
  refine zb_go (zg_getfield fX4_19 (by first | assumption | decide | omega) (by repeat (first | assumption | exact z_up_self _ _ _ | refine (z_up_ne (by first | decide | omega)).trans ?_)) (by rfl)) rfl ?_
  refine zb_go (zg_istore_n (by decide)) rfl ?_
  refine zb_out ?_
  exact lp 200 i h (by omega) hi hs zSame.rf rfl
end
