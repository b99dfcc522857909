/-! ROTA -/
def isRota (h : zH) (a : Nat) (tu tw : Int32) (S B : Nat → Int32) : Prop := h a = .inr (2, [.int tu, .int tw, .ref (a + 1), .ref (a + 2)]) ∧ h (a + 1) = .inl (0, 4, .inl S) ∧ h (a + 2) = .inl (0, 24, .inl B)
section
variable {K : zK} {l : Launch} {n a r g : Nat} {h : zH} {tu tw : Int32} {S B : Nat → Int32}
theorem r_X3_isTurn (hr : r < 6) (hg : g < 4) : zRet K l 0 mX3_isTurn [.int (nI r), .int (nI g)] n h (some (.int 1)) h := by
  refine zRet.of (by decide) (Nat.le_of_ble_eq_true rfl) (fun Q hQ => ?_)
  refine kX3_isTurn_0 ?_
  refine zb_go (zg_iload_n rfl) rfl ?_
  refine zb_br (zg_if_lt (tgt := 23) (by decide)) rfl (fun c => ?_) (fun c => ?_)
  · exact absurd c (nI_pos (by omega))
  · refine zb_go (zg_iload_n rfl) rfl ?_
    refine zb_go (zg_bipush 6 (by decide)) rfl ?_
    refine zb_br (zg_icmp_ge (tgt := 23) (by decide)) rfl (fun c => ?_) (fun c => ?_)
    · exact absurd c (nI_ge (by omega) (by decide))
    · refine zb_go (zg_iload_n rfl) rfl ?_
      refine zb_br (zg_if_lt (tgt := 23) (by decide)) rfl (fun c => ?_) (fun c => ?_)
      · exact absurd c (nI_pos (by omega))
      · refine zb_go (zg_iload_n rfl) rfl ?_
        refine zb_go (zg_iconst 4 (by decide)) rfl ?_
        refine zb_br (zg_icmp_ge (tgt := 23) (by decide)) rfl (fun c => ?_) (fun c => ?_)
        · exact absurd c (nI_ge (by omega) (by decide))
        · refine zb_go (zg_iconst 1 (by decide)) rfl ?_
          refine zb_end (zg_goto (tgt := 24) (by decide) ?_) rfl
          refine kX3_isTurn_24 ?_
          refine zb_end (zg_ireturn rfl (by rfl) ?_) rfl
          exact hQ
theorem z_ix4 (hr : r < 6) (hg : g < 4) : zIx (nI r * 4 + nI g) 24 (4 * r + g) := by
  have e : nI r * 4 + nI g = nI (4 * r + g) := by
    rw [show (4 : Int32) = nI 4 from rfl, pk_mul, nI_add, Nat.mul_comm]
  rw [e]
  exact zIx.nI (by omega) (by decide)
theorem r_X3_bellOf (hR : isRota h a tu tw S B) (ha : a + 2 < n) (hr : r < 6) (hg : g < 4) : zRet K l 1 mX3_bellOf [.ref a, .int (nI r), .int (nI g)] n h (some (.int (B (4 * r + g)))) h := by
  refine zRet.of (by decide) (Nat.le_of_ble_eq_true rfl) (fun Q hQ => ?_)
  obtain ⟨h1, h2, h3⟩ := hR
  refine kX3_bellOf_0 ?_
  refine zb_go (zg_iload_n rfl) rfl ?_
  refine zb_go (zg_iload_n rfl) rfl ?_
  refine zb_calls (r_X3_isTurn hr hg) lX3_34 rfl (by decide) rfl (Nat.le_of_ble_eq_true rfl) rfl ?_
  refine zb_br (zg_if_eq (tgt := 21) (by decide)) rfl (fun c => ?_) (fun c => ?_)
  · exact absurd c (by decide)
  · refine zb_go (zg_aload_n rfl) rfl ?_
    refine zb_go (zg_getfield fX3_22 (by first | assumption | decide | omega) (by first | assumption | exact z_up_self _ _ _ | exact (z_up_ne (by first | decide | omega)).trans (by assumption) | exact (z_up_ne (by first | decide | omega)).trans (z_up_self _ _ _) | exact (z_up_ne (by first | decide | omega)).trans ((z_up_ne (by first | decide | omega)).trans (by assumption)) | exact (z_up_ne (by first | decide | omega)).trans ((z_up_ne (by first | decide | omega)).trans (z_up_self _ _ _))) (by rfl)) rfl ?_
    refine zb_go (zg_iload_n rfl) rfl ?_
    refine zb_go (zg_iconst 4 (by decide)) rfl ?_
    refine zb_go zg_imul rfl ?_
    refine zb_go (zg_iload_n rfl) rfl ?_
    refine zb_go zg_iadd rfl ?_
    refine zb_go (zi_iaload (by first | assumption | decide | omega) (by first | assumption | exact z_up_self _ _ _ | exact (z_up_ne (by first | decide | omega)).trans (by assumption) | exact (z_up_ne (by first | decide | omega)).trans (z_up_self _ _ _) | exact (z_up_ne (by first | decide | omega)).trans ((z_up_ne (by first | decide | omega)).trans (by assumption)) | exact (z_up_ne (by first | decide | omega)).trans ((z_up_ne (by first | decide | omega)).trans (z_up_self _ _ _))) (z_ix4 hr hg)) rfl ?_
    refine zb_end (zg_goto (tgt := 23) (by decide) ?_) rfl
    refine kX3_bellOf_23 ?_
    refine zb_end (zg_ireturn rfl (by rfl) ?_) rfl
    exact hQ
theorem r_X3_hasTurn (hR : isRota h a tu tw S B) (ha : a + 2 < n) (hr : r < 6) (hg : g < 4) : zRet K l 2 mX3_hasTurn [.ref a, .int (nI r), .int (nI g)] n h (some (.int (if B (4 * r + g) ≠ -9 then 1 else 0))) h := by
  refine zRet.of (by decide) (Nat.le_of_ble_eq_true rfl) (fun Q hQ => ?_)
  have h1 := hR.1
  refine kX3_hasTurn_0 ?_
  refine zb_go (zg_aload_n rfl) rfl ?_
  refine zb_go (zg_iload_n rfl) rfl ?_
  refine zb_go (zg_iload_n rfl) rfl ?_
  refine zb_callv (r_X3_bellOf hR ha hr hg) lX3_38 (by first | assumption | exact z_up_self _ _ _ | exact (z_up_ne (by first | decide | omega)).trans (by assumption) | exact (z_up_ne (by first | decide | omega)).trans (z_up_self _ _ _) | exact (z_up_ne (by first | decide | omega)).trans ((z_up_ne (by first | decide | omega)).trans (by assumption)) | exact (z_up_ne (by first | decide | omega)).trans ((z_up_ne (by first | decide | omega)).trans (z_up_self _ _ _))) rfl rfl (by first | assumption | decide | omega) (by decide) rfl (Nat.le_of_ble_eq_true rfl) rfl ?_
  refine zb_go (zg_bipush (-9) (by decide)) rfl ?_
  refine zb_br (zg_icmp_eq (tgt := 15) (by decide)) rfl (fun c => ?_) (fun c => ?_)
  · rw [if_neg (fun q => q c)] at hQ
    refine kX3_hasTurn_15 ?_
    refine zb_go (zg_iconst 0 (by decide)) rfl ?_
    refine zb_out ?_
    refine kX3_hasTurn_16 ?_
    refine zb_end (zg_ireturn rfl (by rfl) ?_) rfl
    exact hQ
  · rw [if_pos c] at hQ
    refine zb_go (zg_iconst 1 (by decide)) rfl ?_
    refine zb_end (zg_goto (tgt := 16) (by decide) ?_) rfl
    refine kX3_hasTurn_16 ?_
    refine zb_end (zg_ireturn rfl (by rfl) ?_) rfl
    exact hQ
def rT (B : Nat → Int32) (r k : Nat) : Nat := zcnt (fun g => decide (B (4 * r + g) ≠ -9)) k
theorem r_X3_timesOf (hR : isRota h a tu tw S B) (ha : a + 2 < n) (hr : r < 6) : zRet K l 3 mX3_timesOf [.ref a, .int (nI r)] n h (some (.int (nI (rT B r 4)))) h := by
  refine zRet.of (by decide) (Nat.le_of_ble_eq_true rfl) (fun Q hQ => ?_)
  have h1 := hR.1
  have lp : ∀ k, k ≤ 4 → zGo K l 3 mX3_timesOf 4 [(0, .ref a), (1, .int (nI r)), (2, .int (nI (rT B r k))), (3, .int (nI k))] [] n h 0 0 Q := by
    refine z_down 4 (fun k hk ih => ?_)
    refine kX3_timesOf_4 ?_
    refine zb_go (zg_iload_n rfl) rfl ?_
    refine zb_go (zg_iconst 4 (by decide)) rfl ?_
    refine zb_br (zg_icmp_ge (tgt := 27) (by decide)) rfl (fun c => ?_) (fun c => ?_)
    · have e : k = 4 := by
        have q := (nI_leI (a := 4) (b := k) (by decide) (by omega)).mp c
        omega
      subst e
      refine kX3_timesOf_27 ?_
      refine zb_go (zg_iload_n rfl) rfl ?_
      refine zb_end (zg_ireturn rfl (by rfl) ?_) rfl
      exact hQ
    · have hk4 : k < 4 := by
        rcases Nat.lt_or_ge k 4 with q | q
        · exact q
        · exact absurd (nI_le q (by omega)) c
      refine zb_go (zg_aload_n rfl) rfl ?_
      refine zb_go (zg_iload_n rfl) rfl ?_
      refine zb_go (zg_iload_n rfl) rfl ?_
      refine zb_callv (r_X3_hasTurn hR ha hr hk4) lX3_42 (by first | assumption | exact z_up_self _ _ _ | exact (z_up_ne (by first | decide | omega)).trans (by assumption) | exact (z_up_ne (by first | decide | omega)).trans (z_up_self _ _ _) | exact (z_up_ne (by first | decide | omega)).trans ((z_up_ne (by first | decide | omega)).trans (by assumption)) | exact (z_up_ne (by first | decide | omega)).trans ((z_up_ne (by first | decide | omega)).trans (z_up_self _ _ _))) rfl rfl (by first | assumption | decide | omega) (by decide) rfl (Nat.le_of_ble_eq_true rfl) rfl ?_
      refine zb_br (zg_if_eq (tgt := 21) (by decide)) rfl (fun c => ?_) (fun c => ?_)
      · have e : rT B r (k + 1) = rT B r k := by
          have q := zb_0.mp c
          simp only [rT, zcnt, decide_eq_true_eq, if_neg q, Nat.add_zero]
        refine kX3_timesOf_21 ?_
        refine zb_go (zg_iinc 1 (by decide) rfl (by decide)) rfl ?_
        refine zb_end (zg_goto (tgt := 4) (by decide) ?_) rfl
        rw [nI_1, ← e]
        exact ih hk4
      · have e : rT B r (k + 1) = rT B r k + 1 := by
          have q := zb_n.mp c
          simp only [rT, zcnt, decide_eq_true_eq, if_pos q]
        refine zb_go (zg_iinc 1 (by decide) rfl (by decide)) rfl ?_
        refine zb_out ?_
        refine kX3_timesOf_21 ?_
        refine zb_go (zg_iinc 1 (by decide) rfl (by decide)) rfl ?_
        refine zb_end (zg_goto (tgt := 4) (by decide) ?_) rfl
        rw [nI_1, nI_1, ← e]
        exact ih hk4
  refine kX3_timesOf_0 ?_
  refine zb_go (zg_iconst 0 (by decide)) rfl ?_
  refine zb_go (zg_istore_n (by decide)) rfl ?_
  refine zb_go (zg_iconst 0 (by decide)) rfl ?_
  refine zb_go (zg_istore_n (by decide)) rfl ?_
  refine zb_out ?_
  exact lp 0 (by omega)
end
