/-! NIGHTS (14): sets in order -/
theorem z_at64 {g k : Nat} : nI g * 64 + nI k = nI (64 * g + k) := by
  rw [show (64 : Int32) = nI 64 from rfl, pk_mul, nI_add, show g * 64 + k = 64 * g + k by omega]
theorem z_m64 {g : Nat} : nI g * 64 = nI (64 * g) := by
  rw [show (64 : Int32) = nI 64 from rfl, pk_mul, Nat.mul_comm]
section
variable {K : zK} {l : Launch} {n p q r g am0 tw s : Nat} {h : zH} {x y z : Int32} {P : zP} {se ri ti re fe ev mi am tn : Int32} {ch co fo : Int64} {sets sin pi : Nat → Int32} {pr lw : Nat → Int64} {f : Nat → Nat} {L : List Nat}
theorem r_X1_addInOrder (hN : isNights h (se, ri, ti, re, ch, fe, ev, mi, sets, sin, pr, lw, am, tn, co, fo, pi)) (hg : g < 4) (hs : s < 64) (hf : ∀ t, f t < 2 ^ 63) (hL : L.length < 64) (hsin : sin g = nI L.length) (hsets : ∀ i, i < L.length → sets (64 * g + i) = nI (L.getD i 0)) (h64 : ∀ i, i < L.length → L.getD i 0 < 64) (hpL : ∀ i, i < L.length → pr (64 * g + L.getD i 0) = lN (f (L.getD i 0))) (hps : pr (64 * g + s) = lN (f s)) :
    zRex K l 0 mX1_addInOrder [.ref 22, .int (nI g), .int (nI s)] 59 h (fun v h' => v = none ∧ zSame 22 27 h h' ∧ ∃ sets' k, isNights h' (se, ri, ti, re, ch, fe, ev, mi, sets', upd sin g (nI (L.length + 1)), pr, lw, am, tn, co, fo, pi) ∧ k ≤ L.length ∧ (k = 0 ∨ f (L.getD (k - 1) 0) ≤ f s) ∧ (∀ i, k ≤ i → i < L.length → f s < f (L.getD i 0)) ∧
      (∀ i, i < k → sets' (64 * g + i) = nI (L.getD i 0)) ∧ sets' (64 * g + k) = nI s ∧ (∀ i, k < i → i ≤ L.length → sets' (64 * g + i) = nI (L.getD (i - 1) 0)) ∧ ∀ j, (j < 64 * g ∨ 64 * g + 64 ≤ j) → sets' j = sets j) := by
  refine zRex.of (by decide) (Nat.le_of_ble_eq_true rfl) (fun Q hQ => ?_)
  obtain ⟨h1, h2, h3, h4, h5, h6⟩ := id hN
  have fin : ∀ k, k ≤ L.length → (k = 0 ∨ f (L.getD (k - 1) 0) ≤ f s) → (∀ i, k ≤ i → i < L.length → f s < f (L.getD i 0)) → ∀ h0 sets', isNights h0 (se, ri, ti, re, ch, fe, ev, mi, sets', sin, pr, lw, am, tn, co, fo, pi) → zSame 22 27 h h0 → (∀ i, i < k → sets' (64 * g + i) = nI (L.getD i 0)) → (∀ i, k < i → i ≤ L.length → sets' (64 * g + i) = nI (L.getD (i - 1) 0)) → (∀ j, (j < 64 * g ∨ 64 * g + 64 ≤ j) → sets' j = sets j) → zGo K l 0 mX1_addInOrder 71 [(0, .ref 22), (1, .int (nI g)), (2, .int (nI s)), (3, .int (nI (64 * g))), (4, .int (nI (64 * g + k)))] [] 59 h0 0 0 Q := by
    intro k hk hle hgt h0 sets' hN0 hsm hlo hhi hot
    obtain ⟨g1, g2, g3, g4, g5, g6⟩ := id hN0
    refine kX1_addInOrder_71 ?_
    refine zb_go (zg_aload_n rfl) rfl ?_
    refine zb_go (zg_getfield fX1_38 (by first | decide | assumption | omega) (by repeat (first | assumption | exact z_up_self _ _ _ | refine (z_up_ne (by first | decide | omega)).trans ?_)) (by rfl)) rfl ?_
    refine zb_go (zg_iload rfl) rfl ?_
    refine zb_go (zg_iload_n rfl) rfl ?_
    refine zb_go (zi_iastore (by first | decide | assumption | omega) (by repeat (first | assumption | exact z_up_self _ _ _ | refine (z_up_ne (by first | decide | omega)).trans ?_)) (zIx.nI (show 64 * g + k < 256 by omega) (by decide))) rfl ?_
    refine zb_go (zg_aload_n rfl) rfl ?_
    refine zb_go (zg_getfield fX1_42 (by first | decide | assumption | omega) (by repeat (first | assumption | exact z_up_self _ _ _ | refine (z_up_ne (by first | decide | omega)).trans ?_)) (by rfl)) rfl ?_
    refine zb_go (zg_iload_n rfl) rfl ?_
    refine zb_go (zg_dup2 rfl rfl) rfl ?_
    refine zb_go (zi_iaload (by first | decide | assumption | omega) (by repeat (first | assumption | exact z_up_self _ _ _ | refine (z_up_ne (by first | decide | omega)).trans ?_)) (zIx.nI hg (by decide))) rfl ?_
    refine zb_go (zg_iconst 1 (by decide)) rfl ?_
    refine zb_go zg_iadd rfl ?_
    rw [hsin, nI_1]
    refine zb_go (zi_iastore (by first | decide | assumption | omega) (by repeat (first | assumption | exact z_up_self _ _ _ | refine (z_up_ne (by first | decide | omega)).trans ?_)) (zIx.nI hg (by decide))) rfl ?_
    refine zb_end (zg_return rfl ?_) rfl
    refine hQ _ _ ⟨rfl, (hsm.up (by omega) (by omega)).up (by omega) (by omega), upd sets' (64 * g + k) (nI s), k, ⟨(z_up_ne (by decide)).trans ((z_up_ne (by decide)).trans g1), (z_up_ne (by decide)).trans (z_up_self _ _ _), z_up_self _ _ _, (z_up_ne (by decide)).trans ((z_up_ne (by decide)).trans g4), (z_up_ne (by decide)).trans ((z_up_ne (by decide)).trans g5), (z_up_ne (by decide)).trans ((z_up_ne (by decide)).trans g6)⟩, hk, hle, hgt, fun i hi => ?_, pk_us, fun i hi hi2 => ?_, fun j hj => ?_⟩
    · rw [pk_un (by omega)]; exact hlo i hi
    · rw [pk_un (by omega)]; exact hhi i hi hi2
    · rw [pk_un (by omega)]; exact hot j hj
  have lp : ∀ k, k ≤ L.length → (∀ i, k ≤ i → i < L.length → f s < f (L.getD i 0)) → ∀ h0 sets', isNights h0 (se, ri, ti, re, ch, fe, ev, mi, sets', sin, pr, lw, am, tn, co, fo, pi) → zSame 22 27 h h0 → (∀ i, i < k → sets' (64 * g + i) = nI (L.getD i 0)) → (∀ i, k < i → i ≤ L.length → sets' (64 * g + i) = nI (L.getD (i - 1) 0)) → (∀ j, (j < 64 * g ∨ 64 * g + 64 ≤ j) → sets' j = sets j) → zGo K l 0 mX1_addInOrder 15 [(0, .ref 22), (1, .int (nI g)), (2, .int (nI s)), (3, .int (nI (64 * g))), (4, .int (nI (64 * g + k)))] [] 59 h0 0 0 Q := by
    intro k
    induction k with
    | zero =>
      intro hk hgt h0 sets' hN0 hsm hlo hhi hot
      refine kX1_addInOrder_15 ?_
      refine zb_go (zg_iload rfl) rfl ?_
      refine zb_go (zg_iload_n rfl) rfl ?_
      refine zb_br (zg_icmp_le (tgt := 71) (by decide)) rfl (fun c0 => ?_) (fun c0 => ?_)
      · exact fin 0 hk (Or.inl rfl) hgt h0 sets' hN0 hsm hlo hhi hot
      · exact absurd (nI_le (show 64 * g + 0 ≤ 64 * g by omega) (by omega)) c0
    | succ k ih =>
      intro hk hgt h0 sets' hN0 hsm hlo hhi hot
      obtain ⟨g1, g2, g3, g4, g5, g6⟩ := id hN0
      have e : nI (64 * g + (k + 1)) - 1 = nI (64 * g + k) := by
        rw [show (1 : Int32) = nI 1 from rfl, pk_sub (by omega), show 64 * g + (k + 1) - 1 = 64 * g + k by omega]
      have e2 : nI (64 * g + (k + 1)) + -1 = nI (64 * g + k) := by rw [← e, Int32.sub_eq_add_neg]
      have hk6 := h64 k (by omega)
      refine kX1_addInOrder_15 ?_
      refine zb_go (zg_iload rfl) rfl ?_
      refine zb_go (zg_iload_n rfl) rfl ?_
      refine zb_br (zg_icmp_le (tgt := 71) (by decide)) rfl (fun c0 => ?_) (fun c0 => ?_)
      · exact absurd ((nI_leI (a := 64 * g + (k + 1)) (b := 64 * g) (by omega) (by omega)).mp c0) (by omega)
      · refine zb_go (zg_aload_n rfl) rfl ?_
        refine zb_go (zg_getfield fX1_45 (by first | decide | assumption | omega) (by repeat (first | assumption | exact z_up_self _ _ _ | refine (z_up_ne (by first | decide | omega)).trans ?_)) (by rfl)) rfl ?_
        refine zb_go (zg_iload_n rfl) rfl ?_
        refine zb_go (zg_aload_n rfl) rfl ?_
        refine zb_go (zg_getfield fX1_38 (by first | decide | assumption | omega) (by repeat (first | assumption | exact z_up_self _ _ _ | refine (z_up_ne (by first | decide | omega)).trans ?_)) (by rfl)) rfl ?_
        refine zb_go (zg_iload rfl) rfl ?_
        refine zb_go (zg_iconst 1 (by decide)) rfl ?_
        refine zb_go zg_isub rfl ?_
        rw [e]
        refine zb_go (zi_iaload (by first | decide | assumption | omega) (by repeat (first | assumption | exact z_up_self _ _ _ | refine (z_up_ne (by first | decide | omega)).trans ?_)) (zIx.nI (show 64 * g + k < 256 by omega) (by decide))) rfl ?_
        rw [hlo k (by omega)]
        refine zb_go zg_iadd rfl ?_
        rw [nI_add]
        refine zb_go (zi_laload (by first | decide | assumption | omega) (by repeat (first | assumption | exact z_up_self _ _ _ | refine (z_up_ne (by first | decide | omega)).trans ?_)) (zIx.nI (show 64 * g + L.getD k 0 < 256 by omega) (by decide))) rfl ?_
        rw [hpL k (by omega)]
        refine zb_go (zg_aload_n rfl) rfl ?_
        refine zb_go (zg_getfield fX1_45 (by first | decide | assumption | omega) (by repeat (first | assumption | exact z_up_self _ _ _ | refine (z_up_ne (by first | decide | omega)).trans ?_)) (by rfl)) rfl ?_
        refine zb_go (zg_iload_n rfl) rfl ?_
        refine zb_go (zg_iload_n rfl) rfl ?_
        refine zb_go zg_iadd rfl ?_
        rw [nI_add]
        refine zb_go (zi_laload (by first | decide | assumption | omega) (by repeat (first | assumption | exact z_up_self _ _ _ | refine (z_up_ne (by first | decide | omega)).trans ?_)) (zIx.nI (show 64 * g + s < 256 by omega) (by decide))) rfl ?_
        rw [hps]
        refine zb_go zg_lcmp rfl ?_
        refine zb_br (zg_if_le (tgt := 71) (by decide)) rfl (fun c1 => ?_) (fun c1 => ?_)
        · have c1 := (lL_le (hf _) (hf _)).mp ((lg_cmp_le _ _).mp c1)
          exact fin (k + 1) hk (Or.inr c1) hgt h0 sets' hN0 hsm hlo hhi hot
        · have c1 : f s < f (L.getD k 0) := Nat.not_le.mp (fun q => c1 ((lg_cmp_le _ _).mpr ((lL_le (hf _) (hf _)).mpr q)))
          refine zb_go (zg_aload_n rfl) rfl ?_
          refine zb_go (zg_getfield fX1_38 (by first | decide | assumption | omega) (by repeat (first | assumption | exact z_up_self _ _ _ | refine (z_up_ne (by first | decide | omega)).trans ?_)) (by rfl)) rfl ?_
          refine zb_go (zg_iload rfl) rfl ?_
          refine zb_go (zg_aload_n rfl) rfl ?_
          refine zb_go (zg_getfield fX1_38 (by first | decide | assumption | omega) (by repeat (first | assumption | exact z_up_self _ _ _ | refine (z_up_ne (by first | decide | omega)).trans ?_)) (by rfl)) rfl ?_
          refine zb_go (zg_iload rfl) rfl ?_
          refine zb_go (zg_iconst 1 (by decide)) rfl ?_
          refine zb_go zg_isub rfl ?_
          rw [e]
          refine zb_go (zi_iaload (by first | decide | assumption | omega) (by repeat (first | assumption | exact z_up_self _ _ _ | refine (z_up_ne (by first | decide | omega)).trans ?_)) (zIx.nI (show 64 * g + k < 256 by omega) (by decide))) rfl ?_
          rw [hlo k (by omega)]
          refine zb_go (zi_iastore (by first | decide | assumption | omega) (by repeat (first | assumption | exact z_up_self _ _ _ | refine (z_up_ne (by first | decide | omega)).trans ?_)) (zIx.nI (show 64 * g + (k + 1) < 256 by omega) (by decide))) rfl ?_
          refine zb_go (zg_iinc (-1) (by decide) rfl (by decide)) rfl ?_
          refine zb_end (zg_goto (tgt := 15) (by decide) ?_) rfl
          rw [e2]
          refine ih (by omega) (fun i h1 h2 => ?_) _ (upd sets' (64 * g + (k + 1)) (nI (L.getD k 0))) ⟨(z_up_ne (by decide)).trans g1, z_up_self _ _ _, (z_up_ne (by decide)).trans g3, (z_up_ne (by decide)).trans g4, (z_up_ne (by decide)).trans g5, (z_up_ne (by decide)).trans g6⟩ (hsm.up (by omega) (by omega)) (fun i hi => ?_) (fun i hi hi2 => ?_) (fun j hj => ?_)
          · rcases Nat.eq_or_lt_of_le h1 with w | w
            · rw [← w]; exact c1
            · exact hgt i w h2
          · rw [pk_un (by omega)]; exact hlo i (by omega)
          · by_cases w : i = k + 1
            · rw [w, pk_us, show k + 1 - 1 = k by omega]
            · rw [pk_un (by omega)]; exact hhi i (by omega) hi2
          · rw [pk_un (by omega)]; exact hot j hj
  refine kX1_addInOrder_0 ?_
  refine zb_go (zg_iload_n rfl) rfl ?_
  refine zb_go (zg_bipush 64 (by decide)) rfl ?_
  refine zb_go zg_imul rfl ?_
  refine zb_go (zg_istore_n (by decide)) rfl ?_
  refine zb_go (zg_iload_n rfl) rfl ?_
  refine zb_go (zg_aload_n rfl) rfl ?_
  refine zb_go (zg_getfield fX1_42 (by first | decide | assumption | omega) (by repeat (first | assumption | exact z_up_self _ _ _ | refine (z_up_ne (by first | decide | omega)).trans ?_)) (by rfl)) rfl ?_
  refine zb_go (zg_iload_n rfl) rfl ?_
  refine zb_go (zi_iaload (by first | decide | assumption | omega) (by repeat (first | assumption | exact z_up_self _ _ _ | refine (z_up_ne (by first | decide | omega)).trans ?_)) (zIx.nI hg (by decide))) rfl ?_
  rw [hsin, z_m64]
  refine zb_go zg_iadd rfl ?_
  rw [nI_add]
  refine zb_go (zg_istore (by decide)) rfl ?_
  refine zb_out ?_
  exact lp L.length (Nat.le_refl _) (fun i h1 h2 => absurd h1 (Nat.not_le.mpr h2)) h sets hN zSame.rf hsets (fun i h1 h2 => absurd h1 (Nat.not_lt.mpr h2)) (fun _ _ => rfl)
end
