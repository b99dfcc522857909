/-! NIGHTS (15): the least within -/
def zlw (f : Nat → Nat) (s : Nat) : Nat := zmn (fun t => decide (t &&& s = t)) f 64
def zfr (f : Nat → Nat) (s : Nat) : Nat → Nat
  | 0 => f s
  | r + 1 => if s.testBit r then min (zfr f s r) (zlw f (zdif s (1 <<< r))) else zfr f s r
theorem z_one {r i : Nat} : (1 <<< r).testBit i = decide (i = r) := by
  rw [Nat.one_shiftLeft, Nat.testBit_two_pow]
  exact decide_eq_decide.mpr ⟨fun h => h.symm, fun h => h.symm⟩
theorem zlw_sub {f : Nat → Nat} {s t : Nat} (h : ∀ i, s.testBit i = true → t.testBit i = true) : zlw f t ≤ zlw f s := by
  refine zmn_ge (zmn_top _) (fun i hi hp => zmn_le hi (decide_eq_true ?_))
  have hp := zand_sub (of_decide_eq_true hp)
  exact zsub_and (fun j hj => h j (hp j hj))
theorem zfr_ge {f : Nat → Nat} {s : Nat} (hs : s < 64) : ∀ r, zlw f s ≤ zfr f s r
  | 0 => zmn_le hs (decide_eq_true (Nat.and_self s))
  | r + 1 => by
    simp only [zfr]
    split
    · refine Nat.le_min.mpr ⟨zfr_ge hs r, zlw_sub (fun i hi => ?_)⟩
      rw [zdif_bit, Bool.and_eq_true] at hi
      exact hi.1
    · exact zfr_ge hs r
theorem zfr_le {f : Nat → Nat} {s r : Nat} (hb : s.testBit r = true) : ∀ k, r < k → zfr f s k ≤ zlw f (zdif s (1 <<< r))
  | 0, h => absurd h (Nat.not_lt_zero _)
  | k + 1, h => by
    simp only [zfr]
    by_cases q : r = k
    · subst q
      rw [if_pos hb]
      exact Nat.min_le_right _ _
    · have ih := zfr_le hb k (by omega) (f := f)
      split
      · exact Nat.le_trans (Nat.min_le_left _ _) ih
      · exact ih
theorem zfr_le0 {f : Nat → Nat} {s : Nat} : ∀ k, zfr f s k ≤ f s
  | 0 => Nat.le_refl _
  | k + 1 => by
    simp only [zfr]
    split
    · exact Nat.le_trans (Nat.min_le_left _ _) (zfr_le0 k)
    · exact zfr_le0 k
theorem zfr_eq {f : Nat → Nat} {s : Nat} (hs : s < 64) (hf : f s ≤ 2 ^ 63 - 1) : zfr f s 6 = zlw f s := by
  refine Nat.le_antisymm (zmn_ge (Nat.le_trans (zfr_le0 6) hf) (fun t ht hp => ?_)) (zfr_ge hs 6)
  have hp := zand_sub (of_decide_eq_true hp)
  by_cases q : t = s
  · rw [q]; exact zfr_le0 6
  · have : ∃ r, r < 6 ∧ s.testBit r = true ∧ t.testBit r = false := by
      refine Decidable.byContradiction (fun w => q (Nat.eq_of_testBit_eq (fun i => ?_)))
      cases e : t.testBit i with
      | true => exact (hp i e).symm
      | false =>
        cases e2 : s.testBit i with
        | false => rfl
        | true =>
          rcases Nat.lt_or_ge i 6 with z | z
          · exact absurd ⟨i, z, e2, e⟩ w
          · rw [Nat.testBit_lt_two_pow (Nat.lt_of_lt_of_le hs (Nat.pow_le_pow_right (n := 2) (by decide) z))] at e2
            exact absurd e2 (by decide)
    obtain ⟨r, hr, h1, h2⟩ := this
    refine Nat.le_trans (zfr_le h1 6 hr) (zmn_le ht (decide_eq_true (zsub_and (fun i hi => ?_))))
    rw [zdif_bit, hp i hi, z_one]
    by_cases z : i = r
    · rw [z, h2] at hi; exact absurd hi (by decide)
    · rw [decide_eq_false z]; rfl
theorem z_less1 : ∀ s, s < 64 → ∀ r, r < 6 → s.testBit r = true → 1 <<< r ≤ s ∧ s - 1 <<< r = zdif s (1 <<< r) := by decide +kernel
theorem zfr_top {f : Nat → Nat} {s : Nat} (hf : f s ≤ 2 ^ 63 - 1) (k : Nat) : zfr f s k < 2 ^ 63 := Nat.lt_of_le_of_lt (Nat.le_trans (zfr_le0 k) hf) (by decide)
theorem zlw_lt (f : Nat → Nat) (s : Nat) : zlw f s < 2 ^ 63 := Nat.lt_of_le_of_lt (zmn_top _) (by decide)
theorem lL_min {a b : Nat} (ha : a < 2 ^ 63) (hb : b < 2 ^ 63) : (if lN b < lN a then lN b else lN a) = lN (min a b) := by
  by_cases q : b < a
  · rw [if_pos ((lL_lt hb ha).mpr q), Nat.min_eq_right (Nat.le_of_lt q)]
  · rw [if_neg (fun z => q ((lL_lt hb ha).mp z)), Nat.min_eq_left (Nat.not_lt.mp q)]
section
variable {K : zK} {l : Launch} {n p q r g am0 tw s : Nat} {h : zH} {x y z : Int32} {P : zP} {se ri ti re fe ev mi am tn : Int32} {ch co fo : Int64} {sets sin pi : Nat → Int32} {pr lw : Nat → Int64} {f : Nat → Nat}
theorem r_X1_findLeast (hN : isNights h (se, ri, ti, re, ch, fe, ev, mi, sets, sin, pr, lw, am, tn, co, fo, pi)) (hg : g < 4) (hf : ∀ t, f t ≤ 2 ^ 63 - 1) (hpr : ∀ t, t < 64 → pr (64 * g + t) = lN (f t)) :
    zRex K l 1 mX1_findLeast [.ref 22, .int (nI g)] 59 h (fun v h' => v = none ∧ zSame 22 27 h h' ∧ ∃ lw', isNights h' (se, ri, ti, re, ch, fe, ev, mi, sets, sin, pr, lw', am, tn, co, fo, pi) ∧ (∀ t, t < 64 → lw' (64 * g + t) = lN (zlw f t)) ∧ ∀ j, (j < 64 * g ∨ 64 * g + 64 ≤ j) → lw' j = lw j) := by
  refine zRex.of (by decide) (Nat.le_of_ble_eq_true rfl) (fun Q hQ => ?_)
  have lp : ∀ s, s ≤ 64 → ∀ h0 lw' z, isNights h0 (se, ri, ti, re, ch, fe, ev, mi, sets, sin, pr, lw', am, tn, co, fo, pi) → zSame 22 27 h h0 → (∀ t, t < s → lw' (64 * g + t) = lN (zlw f t)) → (∀ j, (j < 64 * g ∨ 64 * g + 64 ≤ j) → lw' j = lw j) → (z = [] ∨ ∃ v w, z = [(4, Value.long v), (6, Value.int w)]) → zGo K l 1 mX1_findLeast 7 ([(0, .ref 22), (1, .int (nI g)), (2, .int (nI (64 * g))), (3, .int (nI s))] ++ z) [] 59 h0 0 0 Q := by
    refine z_down 64 (fun s hs ih h0 lw' z hN0 hsm hlw hot hz => ?_)
    obtain ⟨g1, g2, g3, g4, g5, g6⟩ := id hN0
    refine zg_keep [0, 1, 2, 3] ?_
    have el : ((([(0, .ref 22), (1, .int (nI g)), (2, .int (nI (64 * g))), (3, .int (nI s))] : List (Nat × Value)) ++ z).filter (fun q => [0, 1, 2, 3].contains q.1)) = [(0, .ref 22), (1, .int (nI g)), (2, .int (nI (64 * g))), (3, .int (nI s))] := by
      rcases hz with rfl | ⟨v, w, rfl⟩ <;> rfl
    rw [el]
    refine kX1_findLeast_7 ?_
    refine zb_go (zg_iload_n rfl) rfl ?_
    refine zb_go (zg_bipush 64 (by decide)) rfl ?_
    refine zb_br (zg_icmp_ge (tgt := 84) (by decide)) rfl (fun c0 => ?_) (fun c0 => ?_)
    · have e : s = 64 := by
        have := (nI_leI (a := 64) (b := s) (by decide) (by omega)).mp c0
        omega
      subst e
      refine kX1_findLeast_84 ?_
      refine zb_end (zg_return rfl ?_) rfl
      exact hQ _ _ ⟨rfl, hsm, lw', hN0, hlw, hot⟩
    · have hs6 : s < 64 := Nat.not_le.mp (fun q => c0 (nI_le q (by omega)))
      have inner : ∀ r, r ≤ 6 → zGo K l 1 mX1_findLeast 26 [(0, .ref 22), (1, .int (nI g)), (2, .int (nI (64 * g))), (3, .int (nI s)), (4, .long (lN (zfr f s r))), (6, .int (nI r))] [] 59 h0 0 0 Q := by
        refine z_down 6 (fun r hr ihr => ?_)
        have ebit := z_bit (a := s) (k := r) (by omega) (by omega)
        refine kX1_findLeast_26 ?_
        refine zb_go (zg_iload rfl) rfl ?_
        refine zb_go (zg_bipush 6 (by decide)) rfl ?_
        refine zb_br (zg_icmp_ge (tgt := 68) (by decide)) rfl (fun c1 => ?_) (fun c1 => ?_)
        · have e : r = 6 := by
            have := (nI_leI (a := 6) (b := r) (by decide) (by omega)).mp c1
            omega
          subst e
          refine kX1_findLeast_68 ?_
          refine zb_go (zg_aload_n rfl) rfl ?_
          refine zb_go (zg_getfield fX1_49 (by first | decide | assumption | omega) (by repeat (first | assumption | exact z_up_self _ _ _ | refine (z_up_ne (by first | decide | omega)).trans ?_)) (by rfl)) rfl ?_
          refine zb_go (zg_iload_n rfl) rfl ?_
          refine zb_go (zg_iload_n rfl) rfl ?_
          refine zb_go zg_iadd rfl ?_
          refine zb_go (zg_lload rfl) rfl ?_
          rw [nI_add, zfr_eq hs6 (hf s)]
          refine zb_go (zi_lastore (by first | decide | assumption | omega) (by repeat (first | assumption | exact z_up_self _ _ _ | refine (z_up_ne (by first | decide | omega)).trans ?_)) (zIx.nI (show 64 * g + s < 256 by omega) (by decide))) rfl ?_
          refine zb_go (zg_iinc 1 (by decide) rfl (by decide)) rfl ?_
          refine zb_end (zg_goto (tgt := 7) (by decide) ?_) rfl
          rw [nI_1]
          refine ih hs6 _ (vp_updL lw' (64 * g + s) (lN (zlw f s))) _ ⟨(z_up_ne (by decide)).trans g1, (z_up_ne (by decide)).trans g2, (z_up_ne (by decide)).trans g3, (z_up_ne (by decide)).trans g4, z_up_self _ _ _, (z_up_ne (by decide)).trans g6⟩ (hsm.up (by omega) (by omega)) (fun t ht => ?_) (fun j hj => ?_) (Or.inr ⟨_, _, rfl⟩)
          · by_cases w : t = s
            · rw [w, pk_uLs]
            · rw [pk_uLn (by omega)]; exact hlw t (by omega)
          · rw [pk_uLn (by omega)]; exact hot j hj
        · have hr6 : r < 6 := Nat.not_le.mp (fun q => c1 (nI_le q (by omega)))
          refine zb_go (zg_iload_n rfl) rfl ?_
          refine zb_go (zg_iload rfl) rfl ?_
          refine zb_go zg_ishr rfl ?_
          refine zb_go (zg_iconst 1 (by decide)) rfl ?_
          refine zb_go zg_iand rfl ?_
          refine zb_br (zg_if_eq (tgt := 62) (by decide)) rfl (fun c2 => ?_) (fun c2 => ?_)
          · have hb : s.testBit r = false := by
              cases e : s.testBit r with
              | false => rfl
              | true => rw [e] at ebit; exact absurd (ebit.symm.trans c2) (by decide)
            refine kX1_findLeast_62 ?_
            refine zb_go (zg_iinc 1 (by decide) rfl (by decide)) rfl ?_
            refine zb_end (zg_goto (tgt := 26) (by decide) ?_) rfl
            rw [nI_1]
            have eq := ihr hr6
            rw [zfr, hb] at eq
            exact eq
          · have hb : s.testBit r = true := by
              cases e : s.testBit r with
              | true => rfl
              | false => rw [e] at ebit; exact absurd ebit c2
            obtain ⟨hle, hdf⟩ := z_less1 s hs6 r hr6 hb
            have hpos : 0 < 1 <<< r := by rw [Nat.one_shiftLeft]; exact Nat.pow_pos (by decide)
            refine zb_go (zg_lload rfl) rfl ?_
            refine zb_go (zg_aload_n rfl) rfl ?_
            refine zb_go (zg_getfield fX1_49 (by first | decide | assumption | omega) (by repeat (first | assumption | exact z_up_self _ _ _ | refine (z_up_ne (by first | decide | omega)).trans ?_)) (by rfl)) rfl ?_
            refine zb_go (zg_iload_n rfl) rfl ?_
            refine zb_go (zg_iload_n rfl) rfl ?_
            refine zb_go zg_iadd rfl ?_
            rw [nI_add]
            refine zb_go (zg_iconst 1 (by decide)) rfl ?_
            refine zb_go (zg_iload rfl) rfl ?_
            refine zb_go zg_ishl rfl ?_
            rw [show (1 : Int32) <<< (nI r &&& 31) = nI (1 <<< r) from z_shl (a := 1) (by omega)]
            refine zb_go zg_isub rfl ?_
            rw [pk_sub (show 1 <<< r ≤ 64 * g + s by omega), show 64 * g + s - 1 <<< r = 64 * g + zdif s (1 <<< r) by omega]
            have hd : zdif s (1 <<< r) < s := by omega
            refine zb_go (zi_laload (by first | decide | assumption | omega) (by repeat (first | assumption | exact z_up_self _ _ _ | refine (z_up_ne (by first | decide | omega)).trans ?_)) (zIx.nI (show 64 * g + zdif s (1 <<< r) < 256 by omega) (by decide))) rfl ?_
            rw [hlw _ hd]
            refine zb_go (zg_mminL wlX1_148 (by first | decide | omega) (Nat.le_of_ble_eq_true rfl)) rfl ?_
            rw [lL_min (zfr_top (hf s) r) (zlw_lt f _)]
            refine zb_go (zg_lstore (by decide)) rfl ?_
            refine zb_out ?_
            refine kX1_findLeast_62 ?_
            refine zb_go (zg_iinc 1 (by decide) rfl (by decide)) rfl ?_
            refine zb_end (zg_goto (tgt := 26) (by decide) ?_) rfl
            rw [nI_1]
            have eq := ihr hr6
            rw [zfr, hb] at eq
            exact eq
      refine zb_go (zg_aload_n rfl) rfl ?_
      refine zb_go (zg_getfield fX1_45 (by first | decide | assumption | omega) (by repeat (first | assumption | exact z_up_self _ _ _ | refine (z_up_ne (by first | decide | omega)).trans ?_)) (by rfl)) rfl ?_
      refine zb_go (zg_iload_n rfl) rfl ?_
      refine zb_go (zg_iload_n rfl) rfl ?_
      refine zb_go zg_iadd rfl ?_
      rw [nI_add]
      refine zb_go (zi_laload (by first | decide | assumption | omega) (by repeat (first | assumption | exact z_up_self _ _ _ | refine (z_up_ne (by first | decide | omega)).trans ?_)) (zIx.nI (show 64 * g + s < 256 by omega) (by decide))) rfl ?_
      rw [hpr s hs6]
      refine zb_go (zg_lstore (by decide)) rfl ?_
      refine zb_go (zg_iconst 0 (by decide)) rfl ?_
      refine zb_go (zg_istore (by decide)) rfl ?_
      refine zb_out ?_
      exact inner 0 (Nat.zero_le _)
  obtain ⟨h1, h2, h3, h4, h5, h6⟩ := id hN
  refine kX1_findLeast_0 ?_
  refine zb_go (zg_iload_n rfl) rfl ?_
  refine zb_go (zg_bipush 64 (by decide)) rfl ?_
  refine zb_go zg_imul rfl ?_
  rw [z_m64]
  refine zb_go (zg_istore_n (by decide)) rfl ?_
  refine zb_go (zg_iconst 0 (by decide)) rfl ?_
  refine zb_go (zg_istore_n (by decide)) rfl ?_
  refine zb_out ?_
  exact lp 0 (Nat.zero_le _) h lw [] hN zSame.rf (fun t ht => absurd ht (Nat.not_lt_zero _)) (fun _ _ => rfl) (Or.inl rfl)
end
