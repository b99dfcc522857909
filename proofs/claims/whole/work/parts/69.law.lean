/-! THE LAW: its loop -/
theorem cRel.far {h h1 : zH} {G : zS} (hC : cRel h G) (s : zSame 34 58 h h1) : cRel h1 G := by
  obtain ⟨p, q, P', N, kf, hpq, hat, hsc, hp, hq, hR, ⟨fi, hfi, hfi2⟩, hkf, hk2, hN, hNo, hi0, hi1⟩ := hC
  exact ⟨p, q, P', N, kf, hpq, (s 0 (by omega)).trans hat, hsc.same s (by omega), hp.same s (by omega), hq.same s (by omega), hR.same s (by omega), ⟨fi, (s 20 (by omega)).trans hfi, hfi2⟩, (s 21 (by omega)).trans hkf, hk2, hN.same s (by omega), hNo, hi0.same s (by omega), hi1.same s (by omega)⟩
theorem mRel.far {h h1 : zH} {G : zS} (hM : mRel h G) (s : zSame 0 33 h h1) : mRel h1 G := by
  obtain ⟨X, f, kf, h34, ⟨tx, hx, ht⟩, hP, h46, hN, h47, hkf, hI, hR⟩ := hM
  exact ⟨X, f, kf, (s 34 (by omega)).trans h34, ⟨tx, (s 35 (by omega)).trans hx, ht⟩, hP.same s (by omega), (s 46 (by omega)).trans h46, hN, (s 47 (by omega)).trans h47, hkf, hI, hR.same s (by omega)⟩
theorem mRel.obj {h : zH} {G : zS} (hM : mRel h G) : ∃ fs, h 34 = .inr (5, fs) := by
  obtain ⟨⟨at_, st, so, va, fa, to, mo, wa, fe, ev⟩, f, kf, h34, -⟩ := hM
  exact ⟨_, h34⟩
theorem cRel.obj {h : zH} {G : zS} (hC : cRel h G) : ∃ fs, h 0 = .inr (4, fs) := by
  obtain ⟨p, q, P', N, kf, hpq, hat, -⟩ := hC
  exact ⟨_, hat⟩
theorem lg_self (x : Int64) : lg_cmp x x = 0 := by
  unfold lg_cmp
  rw [if_neg (fun h => absurd h (Int64.lt_irrefl)), if_pos rfl]
section
variable {K : zK} {l : Launch}
set_option maxHeartbeats 16000000 in
theorem r_L_loop (hK : zKok K) (hL : K.2.2.2.2.2.1 ≤ 2048) (Q : zQ) (hQ : ∀ n h, Q (some (.int 1)) n h) : ∀ j i h G, K.2.2.2.2.2.1 ≤ i + j → i ≤ 3000 → cRel h G → mRel h G → okS G → zGo K l 12 mL_law 18 [(0, .ref 2000), (1, .ref 0), (2, .ref 34), (3, .int (nI i))] [] 59 h 0 0 Q := by
  have fin : ∀ h ls, zGo K l 12 mL_law 857 ls [] 59 h 0 0 Q := by
    intro h ls
    refine kL_law_857 ?_
    refine zb_go (zg_iconst 1 (by decide)) rfl ?_
    refine zb_end (zg_ireturn rfl (by rfl) ?_) rfl
    exact hQ _ _
  intro j
  induction j with
  | zero =>
    intro i h G hij hi hC hM ok
    refine kL_law_18 ?_
    refine zb_go (zg_iload_n rfl) rfl ?_
    refine zb_go (zg_aload_n rfl) rfl ?_
    refine zb_go zg_slen rfl ?_
    refine zb_go (zg_iconst 4 (by decide)) rfl ?_
    refine zb_go zg_isub rfl ?_
    refine zb_br (zg_icmp_gt (tgt := 857) (by decide)) rfl (fun c0 => ?_) (fun c0 => ?_)
    · exact fin _ _
    · exfalso
      rcases Nat.lt_or_ge K.2.2.2.2.2.1 4 with w | w
      · exact c0 (Int32.lt_of_lt_of_le (pk_sneg (b := 4) (by decide) w) (nI_pos' (by omega)))
      · rw [show (4 : Int32) = nI 4 from rfl, pk_sub w] at c0
        exact c0 (nI_lt (by omega) (by omega))
  | succ j ih =>
    intro i h G hij hi hC hM ok
    refine kL_law_18 ?_
    refine zb_go (zg_iload_n rfl) rfl ?_
    refine zb_go (zg_aload_n rfl) rfl ?_
    refine zb_go zg_slen rfl ?_
    refine zb_go (zg_iconst 4 (by decide)) rfl ?_
    refine zb_go zg_isub rfl ?_
    refine zb_br (zg_icmp_gt (tgt := 857) (by decide)) rfl (fun c0 => ?_) (fun c0 => ?_)
    · exact fin _ _
    · have hi4 : i + 4 ≤ K.2.2.2.2.2.1 := by
        rcases Nat.lt_or_ge K.2.2.2.2.2.1 4 with w | w
        · exact absurd (Int32.lt_of_lt_of_le (pk_sneg (b := 4) (by decide) w) (nI_pos' (by omega))) c0
        · rw [show (4 : Int32) = nI 4 from rfl, pk_sub w] at c0
          rcases Nat.lt_or_ge (K.2.2.2.2.2.1 - 4) i with u | u
          · exact absurd (nI_lt u (by omega)) c0
          · omega
      have s0 : vp_in (nI i) K.2.2.2.2.2.1 := vp_in_nI (by omega) (by omega)
      have s1 : vp_in (nI i + 1) K.2.2.2.2.2.1 := by rw [nI_1]; exact vp_in_nI (by omega) (by omega)
      have s2 : vp_in (nI i + 2) K.2.2.2.2.2.1 := by rw [show (2 : Int32) = nI 2 from rfl, nI_add]; exact vp_in_nI (by omega) (by omega)
      have s3 : vp_in (nI i + 3) K.2.2.2.2.2.1 := by rw [show (3 : Int32) = nI 3 from rfl, nI_add]; exact vp_in_nI (by omega) (by omega)
      have next : ∀ h' G', cRel h' G' → mRel h' G' → okS G' → zGo K l 12 mL_law 851 [(0, .ref 2000), (1, .ref 0), (2, .ref 34), (3, .int (nI i))] [] 59 h' 0 0 Q := by
        intro h' G' hC' hM' ok'
        refine kL_law_851 ?_
        refine zb_go (zg_iinc 4 (by decide) rfl (by decide)) rfl ?_
        refine zb_end (zg_goto (tgt := 18) (by decide) ?_) rfl
        rw [show (4 : Int32) = nI 4 from rfl, nI_add]
        exact ih (i + 4) h' G' (by omega) (by omega) hC' hM' ok'
      clear ih fin
      obtain ⟨fc, h0⟩ := hC.obj
      obtain ⟨fm, h34⟩ := hM.obj
      refine zb_go (zg_aload_n rfl) rfl ?_
      refine zb_go (zg_iload_n rfl) rfl ?_
      refine zb_go (zg_sload s0) rfl ?_
      refine zb_go (zg_bipush 31 (by decide)) rfl ?_
      refine zb_go zg_iand rfl ?_
      obtain ⟨k, hk, ek⟩ := pk_andE (K.2.2.2.2.2.2 (nI i).toNatClampNeg) (m := 31) 5 (by decide)
      rw [ek]
      by_cases hk25 : 25 < k
      · refine zb_end (len := 120) (zg_tableOut 851 (Or.inr (by rw [nI_toInt (by omega)]; omega)) (by decide) ?_) rfl
        exact next h G hC hM ok
      · rcases (show k = 0 ∨ k = 1 ∨ k = 2 ∨ k = 3 ∨ k = 4 ∨ k = 5 ∨ k = 6 ∨ k = 7 ∨ k = 8 ∨ k = 9 ∨ k = 10 ∨ k = 11 ∨ k = 12 ∨ k = 13 ∨ k = 14 ∨ k = 15 ∨ k = 16 ∨ k = 17 ∨ k = 18 ∨ k = 19 ∨ k = 20 ∨ k = 21 ∨ k = 22 ∨ k = 23 ∨ k = 24 ∨ k = 25 by omega) with rfl | rfl | rfl | rfl | rfl | rfl | rfl | rfl | rfl | rfl | rfl | rfl | rfl | rfl | rfl | rfl | rfl | rfl | rfl | rfl | rfl | rfl | rfl | rfl | rfl | rfl
        · -- type
          refine zb_end (len := 120) (zg_tableIn 120 152 (by decide) (by decide) (by rfl) (by decide) ?_) rfl
          refine kL_law_152 ?_
          refine zb_go (zg_aload_n rfl) rfl ?_
          refine zb_go (zg_aload_n rfl) rfl ?_
          refine zb_go (zg_iload_n rfl) rfl ?_
          refine zb_go (zg_iconst 1 (by decide)) rfl ?_
          refine zb_go zg_iadd rfl ?_
          refine zb_go (zg_sload s1) rfl ?_
          refine zb_go zg_i2l rfl ?_
          refine zb_go (zg_bipush 32 (by decide)) rfl ?_
          refine zb_go zg_lshl rfl ?_
          refine zb_go (zg_aload_n rfl) rfl ?_
          refine zb_go (zg_iload_n rfl) rfl ?_
          refine zb_go (zg_iconst 2 (by decide)) rfl ?_
          refine zb_go zg_iadd rfl ?_
          refine zb_go (zg_sload s2) rfl ?_
          refine zb_go zg_i2l rfl ?_
          refine zb_go (zg_ldc2_w cL_13) rfl ?_
          refine zb_go zg_land rfl ?_
          refine zb_go zg_lor rfl ?_
          refine zb_go (zg_aload_n rfl) rfl ?_
          refine zb_go (zg_iload_n rfl) rfl ?_
          refine zb_go (zg_iconst 3 (by decide)) rfl ?_
          refine zb_go zg_iadd rfl ?_
          refine zb_go (zg_sload s3) rfl ?_
          refine zb_callvx (r_X5_type hC ok) lL_15 (by repeat (first | assumption | exact z_up_self _ _ _ | refine (z_up_ne (by first | decide | omega)).trans ?_)) rfl rfl (by first | decide | assumption | omega) (by first | decide | omega) rfl (Nat.le_of_ble_eq_true rfl) rfl ?_
          rintro v h1 ⟨rfl, hC1, ok1, sm1⟩
          have hM1 := hM.far sm1
          obtain ⟨fm1, h341⟩ := hM1.obj
          refine zb_go (zg_aload_n rfl) rfl ?_
          refine zb_go (zg_aload_n rfl) rfl ?_
          refine zb_go (zg_iload_n rfl) rfl ?_
          refine zb_go (zg_iconst 1 (by decide)) rfl ?_
          refine zb_go zg_iadd rfl ?_
          refine zb_go (zg_sload s1) rfl ?_
          refine zb_go zg_i2l rfl ?_
          refine zb_go (zg_bipush 32 (by decide)) rfl ?_
          refine zb_go zg_lshl rfl ?_
          refine zb_go (zg_aload_n rfl) rfl ?_
          refine zb_go (zg_iload_n rfl) rfl ?_
          refine zb_go (zg_iconst 2 (by decide)) rfl ?_
          refine zb_go zg_iadd rfl ?_
          refine zb_go (zg_sload s2) rfl ?_
          refine zb_go zg_i2l rfl ?_
          refine zb_go (zg_ldc2_w cL_13) rfl ?_
          refine zb_go zg_land rfl ?_
          refine zb_go zg_lor rfl ?_
          refine zb_go (zg_aload_n rfl) rfl ?_
          refine zb_go (zg_iload_n rfl) rfl ?_
          refine zb_go (zg_iconst 3 (by decide)) rfl ?_
          refine zb_go zg_iadd rfl ?_
          refine zb_go (zg_sload s3) rfl ?_
          refine zb_callvx (r_X6_type hM1 ok) lL_19 (by repeat (first | assumption | exact z_up_self _ _ _ | refine (z_up_ne (by first | decide | omega)).trans ?_)) rfl rfl (by first | decide | assumption | omega) (by first | decide | omega) rfl (Nat.le_of_ble_eq_true rfl) rfl ?_
          rintro v h2 ⟨rfl, hM2, sm2⟩
          refine zb_br (zg_icmp_eq (tgt := 851) (by decide)) rfl (fun c1 => ?_) (fun c1 => ?_)
          · exact next h2 _ (hC1.far sm2) hM2 ok1
          · exact absurd rfl c1
        · -- clear
          refine zb_end (len := 120) (zg_tableIn 183 215 (by decide) (by decide) (by rfl) (by decide) ?_) rfl
          refine kL_law_215 ?_
          refine zb_go (zg_aload_n rfl) rfl ?_
          refine zb_callvx (r_X5_clear hC ok) lL_20 (by repeat (first | assumption | exact z_up_self _ _ _ | refine (z_up_ne (by first | decide | omega)).trans ?_)) rfl rfl (by first | decide | assumption | omega) (by first | decide | omega) rfl (Nat.le_of_ble_eq_true rfl) rfl ?_
          rintro v h1 ⟨rfl, hC1, ok1, sm1⟩
          have hM1 := hM.far sm1
          obtain ⟨fm1, h341⟩ := hM1.obj
          refine zb_go (zg_aload_n rfl) rfl ?_
          refine zb_callvx (r_X6_clear hM1 ok) lL_24 (by repeat (first | assumption | exact z_up_self _ _ _ | refine (z_up_ne (by first | decide | omega)).trans ?_)) rfl rfl (by first | decide | assumption | omega) (by first | decide | omega) rfl (Nat.le_of_ble_eq_true rfl) rfl ?_
          rintro v h2 ⟨rfl, hM2, sm2⟩
          refine zb_br (zg_icmp_eq (tgt := 851) (by decide)) rfl (fun c1 => ?_) (fun c1 => ?_)
          · exact next h2 _ (hC1.far sm2) hM2 ok1
          · exact absurd rfl c1
        · -- parish
          refine zb_end (len := 120) (zg_tableIn 196 228 (by decide) (by decide) (by rfl) (by decide) ?_) rfl
          refine kL_law_228 ?_
          refine zb_go (zg_aload_n rfl) rfl ?_
          refine zb_callvx (r_X5_parish hK hC ok) lL_25 (by repeat (first | assumption | exact z_up_self _ _ _ | refine (z_up_ne (by first | decide | omega)).trans ?_)) rfl rfl (by first | decide | assumption | omega) (by first | decide | omega) rfl (Nat.le_of_ble_eq_true rfl) rfl ?_
          rintro v h1 ⟨rfl, hC1, ok1, sm1⟩
          have hM1 := hM.far sm1
          obtain ⟨fm1, h341⟩ := hM1.obj
          refine zb_go (zg_aload_n rfl) rfl ?_
          refine zb_callvx (r_X6_parish hM1 ok) lL_28 (by repeat (first | assumption | exact z_up_self _ _ _ | refine (z_up_ne (by first | decide | omega)).trans ?_)) rfl rfl (by first | decide | assumption | omega) (by first | decide | omega) rfl (Nat.le_of_ble_eq_true rfl) rfl ?_
          rintro v h2 ⟨rfl, hM2, sm2⟩
          refine zb_br (zg_icmp_eq (tgt := 851) (by decide)) rfl (fun c1 => ?_) (fun c1 => ?_)
          · exact next h2 _ (hC1.far sm2) hM2 ok1
          · exact absurd rfl c1
        · -- ringer
          refine zb_end (len := 120) (zg_tableIn 209 241 (by decide) (by decide) (by rfl) (by decide) ?_) rfl
          refine kL_law_241 ?_
          refine zb_go (zg_aload_n rfl) rfl ?_
          refine zb_go (zg_aload_n rfl) rfl ?_
          refine zb_go (zg_iload_n rfl) rfl ?_
          refine zb_go (zg_iconst 1 (by decide)) rfl ?_
          refine zb_go zg_iadd rfl ?_
          refine zb_go (zg_sload s1) rfl ?_
          refine zb_go (zg_aload_n rfl) rfl ?_
          refine zb_go (zg_iload_n rfl) rfl ?_
          refine zb_go (zg_iconst 2 (by decide)) rfl ?_
          refine zb_go zg_iadd rfl ?_
          refine zb_go (zg_sload s2) rfl ?_
          refine zb_callv (r_X5_ringer hC ok) lL_29 (by repeat (first | assumption | exact z_up_self _ _ _ | refine (z_up_ne (by first | decide | omega)).trans ?_)) rfl rfl (by first | decide | assumption | omega) (by first | decide | omega) rfl (Nat.le_of_ble_eq_true rfl) rfl ?_
          refine zb_go (zg_aload_n rfl) rfl ?_
          refine zb_go (zg_aload_n rfl) rfl ?_
          refine zb_go (zg_iload_n rfl) rfl ?_
          refine zb_go (zg_iconst 1 (by decide)) rfl ?_
          refine zb_go zg_iadd rfl ?_
          refine zb_go (zg_sload s1) rfl ?_
          refine zb_go (zg_aload_n rfl) rfl ?_
          refine zb_go (zg_iload_n rfl) rfl ?_
          refine zb_go (zg_iconst 2 (by decide)) rfl ?_
          refine zb_go zg_iadd rfl ?_
          refine zb_go (zg_sload s2) rfl ?_
          refine zb_callv (r_X6_ringer hM ok) lL_33 (by repeat (first | assumption | exact z_up_self _ _ _ | refine (z_up_ne (by first | decide | omega)).trans ?_)) rfl rfl (by first | decide | assumption | omega) (by first | decide | omega) rfl (Nat.le_of_ble_eq_true rfl) rfl ?_
          refine zb_br (zg_icmp_eq (tgt := 851) (by decide)) rfl (fun c1 => ?_) (fun c1 => ?_)
          · exact next h G hC hM ok
          · exact absurd rfl c1
        · -- hour
          refine zb_end (len := 120) (zg_tableIn 242 274 (by decide) (by decide) (by rfl) (by decide) ?_) rfl
          refine kL_law_274 ?_
          refine zb_go (zg_aload_n rfl) rfl ?_
          refine zb_go (zg_aload_n rfl) rfl ?_
          refine zb_go (zg_iload_n rfl) rfl ?_
          refine zb_go (zg_iconst 1 (by decide)) rfl ?_
          refine zb_go zg_iadd rfl ?_
          refine zb_go (zg_sload s1) rfl ?_
          refine zb_go (zg_aload_n rfl) rfl ?_
          refine zb_go (zg_iload_n rfl) rfl ?_
          refine zb_go (zg_iconst 2 (by decide)) rfl ?_
          refine zb_go zg_iadd rfl ?_
          refine zb_go (zg_sload s2) rfl ?_
          refine zb_callv (r_X5_hour hC ok) lL_34 (by repeat (first | assumption | exact z_up_self _ _ _ | refine (z_up_ne (by first | decide | omega)).trans ?_)) rfl rfl (by first | decide | assumption | omega) (by first | decide | omega) rfl (Nat.le_of_ble_eq_true rfl) rfl ?_
          refine zb_go (zg_aload_n rfl) rfl ?_
          refine zb_go (zg_aload_n rfl) rfl ?_
          refine zb_go (zg_iload_n rfl) rfl ?_
          refine zb_go (zg_iconst 1 (by decide)) rfl ?_
          refine zb_go zg_iadd rfl ?_
          refine zb_go (zg_sload s1) rfl ?_
          refine zb_go (zg_aload_n rfl) rfl ?_
          refine zb_go (zg_iload_n rfl) rfl ?_
          refine zb_go (zg_iconst 2 (by decide)) rfl ?_
          refine zb_go zg_iadd rfl ?_
          refine zb_go (zg_sload s2) rfl ?_
          refine zb_callv (r_X6_hour hM ok) lL_37 (by repeat (first | assumption | exact z_up_self _ _ _ | refine (z_up_ne (by first | decide | omega)).trans ?_)) rfl rfl (by first | decide | assumption | omega) (by first | decide | omega) rfl (Nat.le_of_ble_eq_true rfl) rfl ?_
          refine zb_br (zg_icmp_eq (tgt := 851) (by decide)) rfl (fun c1 => ?_) (fun c1 => ?_)
          · exact next h G hC hM ok
          · exact absurd rfl c1
        · -- put
          refine zb_end (len := 120) (zg_tableIn 275 307 (by decide) (by decide) (by rfl) (by decide) ?_) rfl
          refine kL_law_307 ?_
          refine zb_go (zg_aload_n rfl) rfl ?_
          refine zb_go (zg_aload_n rfl) rfl ?_
          refine zb_go (zg_iload_n rfl) rfl ?_
          refine zb_go (zg_iconst 1 (by decide)) rfl ?_
          refine zb_go zg_iadd rfl ?_
          refine zb_go (zg_sload s1) rfl ?_
          refine zb_go (zg_aload_n rfl) rfl ?_
          refine zb_go (zg_iload_n rfl) rfl ?_
          refine zb_go (zg_iconst 2 (by decide)) rfl ?_
          refine zb_go zg_iadd rfl ?_
          refine zb_go (zg_sload s2) rfl ?_
          refine zb_go (zg_aload_n rfl) rfl ?_
          refine zb_go (zg_iload_n rfl) rfl ?_
          refine zb_go (zg_iconst 3 (by decide)) rfl ?_
          refine zb_go zg_iadd rfl ?_
          refine zb_go (zg_sload s3) rfl ?_
          refine zb_callvx (r_X5_put hC ok) lL_38 (by repeat (first | assumption | exact z_up_self _ _ _ | refine (z_up_ne (by first | decide | omega)).trans ?_)) rfl rfl (by first | decide | assumption | omega) (by first | decide | omega) rfl (Nat.le_of_ble_eq_true rfl) rfl ?_
          rintro v h1 ⟨rfl, hC1, ok1, sm1⟩
          have hM1 := hM.far sm1
          obtain ⟨fm1, h341⟩ := hM1.obj
          refine zb_go (zg_aload_n rfl) rfl ?_
          refine zb_go (zg_aload_n rfl) rfl ?_
          refine zb_go (zg_iload_n rfl) rfl ?_
          refine zb_go (zg_iconst 1 (by decide)) rfl ?_
          refine zb_go zg_iadd rfl ?_
          refine zb_go (zg_sload s1) rfl ?_
          refine zb_go (zg_aload_n rfl) rfl ?_
          refine zb_go (zg_iload_n rfl) rfl ?_
          refine zb_go (zg_iconst 2 (by decide)) rfl ?_
          refine zb_go zg_iadd rfl ?_
          refine zb_go (zg_sload s2) rfl ?_
          refine zb_go (zg_aload_n rfl) rfl ?_
          refine zb_go (zg_iload_n rfl) rfl ?_
          refine zb_go (zg_iconst 3 (by decide)) rfl ?_
          refine zb_go zg_iadd rfl ?_
          refine zb_go (zg_sload s3) rfl ?_
          refine zb_callvx (r_X6_put hM1 ok) lL_42 (by repeat (first | assumption | exact z_up_self _ _ _ | refine (z_up_ne (by first | decide | omega)).trans ?_)) rfl rfl (by first | decide | assumption | omega) (by first | decide | omega) rfl (Nat.le_of_ble_eq_true rfl) rfl ?_
          rintro v h2 ⟨rfl, hM2, sm2⟩
          refine zb_br (zg_icmp_eq (tgt := 851) (by decide)) rfl (fun c1 => ?_) (fun c1 => ?_)
          · exact next h2 _ (hC1.far sm2) hM2 ok1
          · exact absurd rfl c1
        · -- rings
          refine zb_end (len := 120) (zg_tableIn 318 350 (by decide) (by decide) (by rfl) (by decide) ?_) rfl
          refine kL_law_350 ?_
          refine zb_go (zg_aload_n rfl) rfl ?_
          refine zb_go (zg_aload_n rfl) rfl ?_
          refine zb_go (zg_iload_n rfl) rfl ?_
          refine zb_go (zg_iconst 1 (by decide)) rfl ?_
          refine zb_go zg_iadd rfl ?_
          refine zb_go (zg_sload s1) rfl ?_
          refine zb_go (zg_aload_n rfl) rfl ?_
          refine zb_go (zg_iload_n rfl) rfl ?_
          refine zb_go (zg_iconst 2 (by decide)) rfl ?_
          refine zb_go zg_iadd rfl ?_
          refine zb_go (zg_sload s2) rfl ?_
          refine zb_callv (r_X5_rings hC ok) lL_43 (by repeat (first | assumption | exact z_up_self _ _ _ | refine (z_up_ne (by first | decide | omega)).trans ?_)) rfl rfl (by first | decide | assumption | omega) (by first | decide | omega) rfl (Nat.le_of_ble_eq_true rfl) rfl ?_
          refine zb_go (zg_aload_n rfl) rfl ?_
          refine zb_go (zg_aload_n rfl) rfl ?_
          refine zb_go (zg_iload_n rfl) rfl ?_
          refine zb_go (zg_iconst 1 (by decide)) rfl ?_
          refine zb_go zg_iadd rfl ?_
          refine zb_go (zg_sload s1) rfl ?_
          refine zb_go (zg_aload_n rfl) rfl ?_
          refine zb_go (zg_iload_n rfl) rfl ?_
          refine zb_go (zg_iconst 2 (by decide)) rfl ?_
          refine zb_go zg_iadd rfl ?_
          refine zb_go (zg_sload s2) rfl ?_
          refine zb_callv (r_X6_rings hM ok) lL_46 (by repeat (first | assumption | exact z_up_self _ _ _ | refine (z_up_ne (by first | decide | omega)).trans ?_)) rfl rfl (by first | decide | assumption | omega) (by first | decide | omega) rfl (Nat.le_of_ble_eq_true rfl) rfl ?_
          refine zb_br (zg_icmp_eq (tgt := 851) (by decide)) rfl (fun c1 => ?_) (fun c1 => ?_)
          · exact next h G hC hM ok
          · exact absurd rfl c1
        · -- take
          refine zb_end (len := 120) (zg_tableIn 351 383 (by decide) (by decide) (by rfl) (by decide) ?_) rfl
          refine kL_law_383 ?_
          refine zb_go (zg_aload_n rfl) rfl ?_
          refine zb_go (zg_aload_n rfl) rfl ?_
          refine zb_go (zg_iload_n rfl) rfl ?_
          refine zb_go (zg_iconst 1 (by decide)) rfl ?_
          refine zb_go zg_iadd rfl ?_
          refine zb_go (zg_sload s1) rfl ?_
          refine zb_go (zg_aload_n rfl) rfl ?_
          refine zb_go (zg_iload_n rfl) rfl ?_
          refine zb_go (zg_iconst 2 (by decide)) rfl ?_
          refine zb_go zg_iadd rfl ?_
          refine zb_go (zg_sload s2) rfl ?_
          refine zb_callvx (r_X5_take hC ok) lL_47 (by repeat (first | assumption | exact z_up_self _ _ _ | refine (z_up_ne (by first | decide | omega)).trans ?_)) rfl rfl (by first | decide | assumption | omega) (by first | decide | omega) rfl (Nat.le_of_ble_eq_true rfl) rfl ?_
          rintro v h1 ⟨rfl, hC1, ok1, sm1⟩
          have hM1 := hM.far sm1
          obtain ⟨fm1, h341⟩ := hM1.obj
          refine zb_go (zg_aload_n rfl) rfl ?_
          refine zb_go (zg_aload_n rfl) rfl ?_
          refine zb_go (zg_iload_n rfl) rfl ?_
          refine zb_go (zg_iconst 1 (by decide)) rfl ?_
          refine zb_go zg_iadd rfl ?_
          refine zb_go (zg_sload s1) rfl ?_
          refine zb_go (zg_aload_n rfl) rfl ?_
          refine zb_go (zg_iload_n rfl) rfl ?_
          refine zb_go (zg_iconst 2 (by decide)) rfl ?_
          refine zb_go zg_iadd rfl ?_
          refine zb_go (zg_sload s2) rfl ?_
          refine zb_callvx (r_X6_take hM1 ok) lL_50 (by repeat (first | assumption | exact z_up_self _ _ _ | refine (z_up_ne (by first | decide | omega)).trans ?_)) rfl rfl (by first | decide | assumption | omega) (by first | decide | omega) rfl (Nat.le_of_ble_eq_true rfl) rfl ?_
          rintro v h2 ⟨rfl, hM2, sm2⟩
          refine zb_br (zg_icmp_eq (tgt := 851) (by decide)) rfl (fun c1 => ?_) (fun c1 => ?_)
          · exact next h2 _ (hC1.far sm2) hM2 ok1
          · exact absurd rfl c1
        · -- exchange
          refine zb_end (len := 120) (zg_tableIn 384 416 (by decide) (by decide) (by rfl) (by decide) ?_) rfl
          refine kL_law_416 ?_
          refine zb_go (zg_aload_n rfl) rfl ?_
          refine zb_go (zg_aload_n rfl) rfl ?_
          refine zb_go (zg_iload_n rfl) rfl ?_
          refine zb_go (zg_iconst 1 (by decide)) rfl ?_
          refine zb_go zg_iadd rfl ?_
          refine zb_go (zg_sload s1) rfl ?_
          refine zb_go (zg_aload_n rfl) rfl ?_
          refine zb_go (zg_iload_n rfl) rfl ?_
          refine zb_go (zg_iconst 2 (by decide)) rfl ?_
          refine zb_go zg_iadd rfl ?_
          refine zb_go (zg_sload s2) rfl ?_
          refine zb_callvx (r_X5_exchange hC ok) lL_51 (by repeat (first | assumption | exact z_up_self _ _ _ | refine (z_up_ne (by first | decide | omega)).trans ?_)) rfl rfl (by first | decide | assumption | omega) (by first | decide | omega) rfl (Nat.le_of_ble_eq_true rfl) rfl ?_
          rintro v h1 ⟨rfl, hC1, ok1, sm1⟩
          have hM1 := hM.far sm1
          obtain ⟨fm1, h341⟩ := hM1.obj
          refine zb_go (zg_aload_n rfl) rfl ?_
          refine zb_go (zg_aload_n rfl) rfl ?_
          refine zb_go (zg_iload_n rfl) rfl ?_
          refine zb_go (zg_iconst 1 (by decide)) rfl ?_
          refine zb_go zg_iadd rfl ?_
          refine zb_go (zg_sload s1) rfl ?_
          refine zb_go (zg_aload_n rfl) rfl ?_
          refine zb_go (zg_iload_n rfl) rfl ?_
          refine zb_go (zg_iconst 2 (by decide)) rfl ?_
          refine zb_go zg_iadd rfl ?_
          refine zb_go (zg_sload s2) rfl ?_
          refine zb_callvx (r_X6_exchange hM1 ok) lL_54 (by repeat (first | assumption | exact z_up_self _ _ _ | refine (z_up_ne (by first | decide | omega)).trans ?_)) rfl rfl (by first | decide | assumption | omega) (by first | decide | omega) rfl (Nat.le_of_ble_eq_true rfl) rfl ?_
          rintro v h2 ⟨rfl, hM2, sm2⟩
          refine zb_br (zg_icmp_eq (tgt := 851) (by decide)) rfl (fun c1 => ?_) (fun c1 => ?_)
          · exact next h2 _ (hC1.far sm2) hM2 ok1
          · exact absurd rfl c1
        · -- now
          refine zb_end (len := 120) (zg_tableIn 417 449 (by decide) (by decide) (by rfl) (by decide) ?_) rfl
          refine kL_law_449 ?_
          refine zb_go (zg_aload_n rfl) rfl ?_
          refine zb_go (zg_aload_n rfl) rfl ?_
          refine zb_go (zg_iload_n rfl) rfl ?_
          refine zb_go (zg_iconst 1 (by decide)) rfl ?_
          refine zb_go zg_iadd rfl ?_
          refine zb_go (zg_sload s1) rfl ?_
          refine zb_callv (r_X5_now hC ok) lL_55 (by repeat (first | assumption | exact z_up_self _ _ _ | refine (z_up_ne (by first | decide | omega)).trans ?_)) rfl rfl (by first | decide | assumption | omega) (by first | decide | omega) rfl (Nat.le_of_ble_eq_true rfl) rfl ?_
          refine zb_go (zg_aload_n rfl) rfl ?_
          refine zb_go (zg_aload_n rfl) rfl ?_
          refine zb_go (zg_iload_n rfl) rfl ?_
          refine zb_go (zg_iconst 1 (by decide)) rfl ?_
          refine zb_go zg_iadd rfl ?_
          refine zb_go (zg_sload s1) rfl ?_
          refine zb_callv (r_X6_now hM ok) lL_59 (by repeat (first | assumption | exact z_up_self _ _ _ | refine (z_up_ne (by first | decide | omega)).trans ?_)) rfl rfl (by first | decide | assumption | omega) (by first | decide | omega) rfl (Nat.le_of_ble_eq_true rfl) rfl ?_
          refine zb_br (zg_icmp_eq (tgt := 851) (by decide)) rfl (fun c1 => ?_) (fun c1 => ?_)
          · exact next h G hC hM ok
          · exact absurd rfl c1
        · -- moves
          refine zb_end (len := 120) (zg_tableIn 440 472 (by decide) (by decide) (by rfl) (by decide) ?_) rfl
          refine kL_law_472 ?_
          refine zb_go (zg_aload_n rfl) rfl ?_
          refine zb_go (zg_aload_n rfl) rfl ?_
          refine zb_go (zg_iload_n rfl) rfl ?_
          refine zb_go (zg_iconst 1 (by decide)) rfl ?_
          refine zb_go zg_iadd rfl ?_
          refine zb_go (zg_sload s1) rfl ?_
          refine zb_callvx (r_X5_moves hC ok) lL_60 (by repeat (first | assumption | exact z_up_self _ _ _ | refine (z_up_ne (by first | decide | omega)).trans ?_)) rfl rfl (by first | decide | assumption | omega) (by first | decide | omega) rfl (Nat.le_of_ble_eq_true rfl) rfl ?_
          rintro v h1 ⟨rfl, hC1, ok1, sm1⟩
          have hM1 := hM.far sm1
          obtain ⟨fm1, h341⟩ := hM1.obj
          refine zb_go (zg_aload_n rfl) rfl ?_
          refine zb_go (zg_aload_n rfl) rfl ?_
          refine zb_go (zg_iload_n rfl) rfl ?_
          refine zb_go (zg_iconst 1 (by decide)) rfl ?_
          refine zb_go zg_iadd rfl ?_
          refine zb_go (zg_sload s1) rfl ?_
          refine zb_callvx (r_X6_moves hM1 ok) lL_63 (by repeat (first | assumption | exact z_up_self _ _ _ | refine (z_up_ne (by first | decide | omega)).trans ?_)) rfl rfl (by first | decide | assumption | omega) (by first | decide | omega) rfl (Nat.le_of_ble_eq_true rfl) rfl ?_
          rintro v h2 ⟨rfl, hM2, sm2⟩
          refine zb_br (zg_icmp_eq (tgt := 851) (by decide)) rfl (fun c1 => ?_) (fun c1 => ?_)
          · exact next h2 _ (hC1.far sm2) hM2 ok1
          · exact absurd rfl c1
        · -- crew
          refine zb_end (len := 120) (zg_tableIn 463 495 (by decide) (by decide) (by rfl) (by decide) ?_) rfl
          refine kL_law_495 ?_
          refine zb_go (zg_aload_n rfl) rfl ?_
          refine zb_go (zg_aload_n rfl) rfl ?_
          refine zb_go (zg_iload_n rfl) rfl ?_
          refine zb_go (zg_iconst 1 (by decide)) rfl ?_
          refine zb_go zg_iadd rfl ?_
          refine zb_go (zg_sload s1) rfl ?_
          refine zb_callv (r_X5_crew hC ok) lL_64 (by repeat (first | assumption | exact z_up_self _ _ _ | refine (z_up_ne (by first | decide | omega)).trans ?_)) rfl rfl (by first | decide | assumption | omega) (by first | decide | omega) rfl (Nat.le_of_ble_eq_true rfl) rfl ?_
          refine zb_go (zg_aload_n rfl) rfl ?_
          refine zb_go (zg_aload_n rfl) rfl ?_
          refine zb_go (zg_iload_n rfl) rfl ?_
          refine zb_go (zg_iconst 1 (by decide)) rfl ?_
          refine zb_go zg_iadd rfl ?_
          refine zb_go (zg_sload s1) rfl ?_
          refine zb_callvx (r_X6_crew hM ok) lL_67 (by repeat (first | assumption | exact z_up_self _ _ _ | refine (z_up_ne (by first | decide | omega)).trans ?_)) rfl rfl (by first | decide | assumption | omega) (by first | decide | omega) rfl (Nat.le_of_ble_eq_true rfl) rfl ?_
          rintro v h2 ⟨rfl, hM2, sm2⟩
          refine zb_br (zg_icmp_eq (tgt := 851) (by decide)) rfl (fun c1 => ?_) (fun c1 => ?_)
          · exact next h2 G (hC.far sm2) hM2 ok
          · exact absurd rfl c1
        · -- bars
          refine zb_end (len := 120) (zg_tableIn 486 518 (by decide) (by decide) (by rfl) (by decide) ?_) rfl
          refine kL_law_518 ?_
          refine zb_go (zg_aload_n rfl) rfl ?_
          refine zb_go (zg_aload_n rfl) rfl ?_
          refine zb_go (zg_iload_n rfl) rfl ?_
          refine zb_go (zg_iconst 1 (by decide)) rfl ?_
          refine zb_go zg_iadd rfl ?_
          refine zb_go (zg_sload s1) rfl ?_
          refine zb_callv (r_X5_bars hC ok) lL_68 (by repeat (first | assumption | exact z_up_self _ _ _ | refine (z_up_ne (by first | decide | omega)).trans ?_)) rfl rfl (by first | decide | assumption | omega) (by first | decide | omega) rfl (Nat.le_of_ble_eq_true rfl) rfl ?_
          refine zb_go (zg_aload_n rfl) rfl ?_
          refine zb_go (zg_aload_n rfl) rfl ?_
          refine zb_go (zg_iload_n rfl) rfl ?_
          refine zb_go (zg_iconst 1 (by decide)) rfl ?_
          refine zb_go zg_iadd rfl ?_
          refine zb_go (zg_sload s1) rfl ?_
          refine zb_callv (r_X6_bars hM ok) lL_71 (by repeat (first | assumption | exact z_up_self _ _ _ | refine (z_up_ne (by first | decide | omega)).trans ?_)) rfl rfl (by first | decide | assumption | omega) (by first | decide | omega) rfl (Nat.le_of_ble_eq_true rfl) rfl ?_
          refine zb_br (zg_icmp_eq (tgt := 851) (by decide)) rfl (fun c1 => ?_) (fun c1 => ?_)
          · exact next h G hC hM ok
          · exact absurd rfl c1
        · -- night
          refine zb_end (len := 120) (zg_tableIn 509 541 (by decide) (by decide) (by rfl) (by decide) ?_) rfl
          refine kL_law_541 ?_
          refine zb_go (zg_aload_n rfl) rfl ?_
          refine zb_go (zg_aload_n rfl) rfl ?_
          refine zb_go (zg_iload_n rfl) rfl ?_
          refine zb_go (zg_iconst 1 (by decide)) rfl ?_
          refine zb_go zg_iadd rfl ?_
          refine zb_go (zg_sload s1) rfl ?_
          refine zb_callvx (r_X5_night hC ok) lL_72 (by repeat (first | assumption | exact z_up_self _ _ _ | refine (z_up_ne (by first | decide | omega)).trans ?_)) rfl rfl (by first | decide | assumption | omega) (by first | decide | omega) rfl (Nat.le_of_ble_eq_true rfl) rfl ?_
          rintro v h1 ⟨rfl, hC1, ok1, sm1⟩
          have hM1 := hM.far sm1
          obtain ⟨fm1, h341⟩ := hM1.obj
          refine zb_go (zg_aload_n rfl) rfl ?_
          refine zb_go (zg_aload_n rfl) rfl ?_
          refine zb_go (zg_iload_n rfl) rfl ?_
          refine zb_go (zg_iconst 1 (by decide)) rfl ?_
          refine zb_go zg_iadd rfl ?_
          refine zb_go (zg_sload s1) rfl ?_
          refine zb_callvx (r_X6_night hM1 ok) lL_75 (by repeat (first | assumption | exact z_up_self _ _ _ | refine (z_up_ne (by first | decide | omega)).trans ?_)) rfl rfl (by first | decide | assumption | omega) (by first | decide | omega) rfl (Nat.le_of_ble_eq_true rfl) rfl ?_
          rintro v h2 ⟨rfl, hM2, sm2⟩
          refine zb_br (zg_icmp_eq (tgt := 851) (by decide)) rfl (fun c1 => ?_) (fun c1 => ?_)
          · exact next h2 G (hC1.far sm2) hM2 ok
          · exact absurd rfl c1
        · -- best
          refine zb_end (len := 120) (zg_tableIn 532 564 (by decide) (by decide) (by rfl) (by decide) ?_) rfl
          refine kL_law_564 ?_
          refine zb_go (zg_aload_n rfl) rfl ?_
          refine zb_go (zg_aload_n rfl) rfl ?_
          refine zb_go (zg_iload_n rfl) rfl ?_
          refine zb_go (zg_iconst 1 (by decide)) rfl ?_
          refine zb_go zg_iadd rfl ?_
          refine zb_go (zg_sload s1) rfl ?_
          refine zb_go (zg_aload_n rfl) rfl ?_
          refine zb_go (zg_iload_n rfl) rfl ?_
          refine zb_go (zg_iconst 2 (by decide)) rfl ?_
          refine zb_go zg_iadd rfl ?_
          refine zb_go (zg_sload s2) rfl ?_
          refine zb_callvx (r_X5_best hC ok) lL_76 (by repeat (first | assumption | exact z_up_self _ _ _ | refine (z_up_ne (by first | decide | omega)).trans ?_)) rfl rfl (by first | decide | assumption | omega) (by first | decide | omega) rfl (Nat.le_of_ble_eq_true rfl) rfl ?_
          rintro v h1 ⟨rfl, hC1, ok1, sm1⟩
          have hM1 := hM.far sm1
          obtain ⟨fm1, h341⟩ := hM1.obj
          refine zb_go (zg_aload_n rfl) rfl ?_
          refine zb_go (zg_aload_n rfl) rfl ?_
          refine zb_go (zg_iload_n rfl) rfl ?_
          refine zb_go (zg_iconst 1 (by decide)) rfl ?_
          refine zb_go zg_iadd rfl ?_
          refine zb_go (zg_sload s1) rfl ?_
          refine zb_go (zg_aload_n rfl) rfl ?_
          refine zb_go (zg_iload_n rfl) rfl ?_
          refine zb_go (zg_iconst 2 (by decide)) rfl ?_
          refine zb_go zg_iadd rfl ?_
          refine zb_go (zg_sload s2) rfl ?_
          refine zb_callvx (r_X6_best hM1 ok) lL_79 (by repeat (first | assumption | exact z_up_self _ _ _ | refine (z_up_ne (by first | decide | omega)).trans ?_)) rfl rfl (by first | decide | assumption | omega) (by first | decide | omega) rfl (Nat.le_of_ble_eq_true rfl) rfl ?_
          rintro v h2 ⟨rfl, hM2, sm2⟩
          refine zb_br (zg_icmp_eq (tgt := 851) (by decide)) rfl (fun c1 => ?_) (fun c1 => ?_)
          · exact next h2 G (hC1.far sm2) hM2 ok
          · exact absurd rfl c1
        · -- needed
          refine zb_end (len := 120) (zg_tableIn 565 597 (by decide) (by decide) (by rfl) (by decide) ?_) rfl
          refine kL_law_597 ?_
          refine zb_go (zg_aload_n rfl) rfl ?_
          refine zb_callvx (r_X5_needed hC ok) lL_80 (by repeat (first | assumption | exact z_up_self _ _ _ | refine (z_up_ne (by first | decide | omega)).trans ?_)) rfl rfl (by first | decide | assumption | omega) (by first | decide | omega) rfl (Nat.le_of_ble_eq_true rfl) rfl ?_
          rintro v h1 ⟨rfl, hC1, ok1, sm1⟩
          have hM1 := hM.far sm1
          obtain ⟨fm1, h341⟩ := hM1.obj
          refine zb_go (zg_aload_n rfl) rfl ?_
          refine zb_callvx (r_X6_needed hM1 ok) lL_83 (by repeat (first | assumption | exact z_up_self _ _ _ | refine (z_up_ne (by first | decide | omega)).trans ?_)) rfl rfl (by first | decide | assumption | omega) (by first | decide | omega) rfl (Nat.le_of_ble_eq_true rfl) rfl ?_
          rintro v h2 ⟨rfl, hM2, sm2⟩
          refine zb_br (zg_icmp_eq (tgt := 851) (by decide)) rfl (fun c1 => ?_) (fun c1 => ?_)
          · exact next h2 G (hC1.far sm2) hM2 ok
          · exact absurd rfl c1
        · -- odds
          refine zb_end (len := 120) (zg_tableIn 578 610 (by decide) (by decide) (by rfl) (by decide) ?_) rfl
          refine kL_law_610 ?_
          refine zb_go (zg_aload_n rfl) rfl ?_
          refine zb_go (zg_aload_n rfl) rfl ?_
          refine zb_go (zg_iload_n rfl) rfl ?_
          refine zb_go (zg_iconst 1 (by decide)) rfl ?_
          refine zb_go zg_iadd rfl ?_
          refine zb_go (zg_sload s1) rfl ?_
          refine zb_go (zg_aload_n rfl) rfl ?_
          refine zb_go (zg_iload_n rfl) rfl ?_
          refine zb_go (zg_iconst 2 (by decide)) rfl ?_
          refine zb_go zg_iadd rfl ?_
          refine zb_go (zg_sload s2) rfl ?_
          refine zb_callv (r_X5_odds hC ok) lL_84 (by repeat (first | assumption | exact z_up_self _ _ _ | refine (z_up_ne (by first | decide | omega)).trans ?_)) rfl rfl (by first | decide | assumption | omega) (by first | decide | omega) rfl (Nat.le_of_ble_eq_true rfl) rfl ?_
          refine zb_go (zg_aload_n rfl) rfl ?_
          refine zb_go (zg_aload_n rfl) rfl ?_
          refine zb_go (zg_iload_n rfl) rfl ?_
          refine zb_go (zg_iconst 1 (by decide)) rfl ?_
          refine zb_go zg_iadd rfl ?_
          refine zb_go (zg_sload s1) rfl ?_
          refine zb_go (zg_aload_n rfl) rfl ?_
          refine zb_go (zg_iload_n rfl) rfl ?_
          refine zb_go (zg_iconst 2 (by decide)) rfl ?_
          refine zb_go zg_iadd rfl ?_
          refine zb_go (zg_sload s2) rfl ?_
          refine zb_callvx (r_X6_odds hM ok) lL_87 (by repeat (first | assumption | exact z_up_self _ _ _ | refine (z_up_ne (by first | decide | omega)).trans ?_)) rfl rfl (by first | decide | assumption | omega) (by first | decide | omega) rfl (Nat.le_of_ble_eq_true rfl) rfl ?_
          rintro v h2 ⟨rfl, hM2, sm2⟩
          refine zb_br (zg_icmp_eq (tgt := 851) (by decide)) rfl (fun c1 => ?_) (fun c1 => ?_)
          · exact next h2 G (hC.far sm2) hM2 ok
          · exact absurd rfl c1
        · -- stands
          refine zb_end (len := 120) (zg_tableIn 611 643 (by decide) (by decide) (by rfl) (by decide) ?_) rfl
          refine kL_law_643 ?_
          refine zb_go (zg_aload_n rfl) rfl ?_
          refine zb_go (zg_aload_n rfl) rfl ?_
          refine zb_go (zg_iload_n rfl) rfl ?_
          refine zb_go (zg_iconst 1 (by decide)) rfl ?_
          refine zb_go zg_iadd rfl ?_
          refine zb_go (zg_sload s1) rfl ?_
          refine zb_callv (r_X5_stands hC ok) lL_88 (by repeat (first | assumption | exact z_up_self _ _ _ | refine (z_up_ne (by first | decide | omega)).trans ?_)) rfl rfl (by first | decide | assumption | omega) (by first | decide | omega) rfl (Nat.le_of_ble_eq_true rfl) rfl ?_
          refine zb_go (zg_aload_n rfl) rfl ?_
          refine zb_go (zg_aload_n rfl) rfl ?_
          refine zb_go (zg_iload_n rfl) rfl ?_
          refine zb_go (zg_iconst 1 (by decide)) rfl ?_
          refine zb_go zg_iadd rfl ?_
          refine zb_go (zg_sload s1) rfl ?_
          refine zb_callv (r_X6_stands hM ok) lL_91 (by repeat (first | assumption | exact z_up_self _ _ _ | refine (z_up_ne (by first | decide | omega)).trans ?_)) rfl rfl (by first | decide | assumption | omega) (by first | decide | omega) rfl (Nat.le_of_ble_eq_true rfl) rfl ?_
          refine zb_br (zg_icmp_eq (tgt := 851) (by decide)) rfl (fun c1 => ?_) (fun c1 => ?_)
          · exact next h G hC hM ok
          · exact absurd rfl c1
        · -- heard
          refine zb_end (len := 120) (zg_tableIn 634 666 (by decide) (by decide) (by rfl) (by decide) ?_) rfl
          refine kL_law_666 ?_
          refine zb_go (zg_aload_n rfl) rfl ?_
          refine zb_go (zg_aload_n rfl) rfl ?_
          refine zb_go (zg_iload_n rfl) rfl ?_
          refine zb_go (zg_iconst 1 (by decide)) rfl ?_
          refine zb_go zg_iadd rfl ?_
          refine zb_go (zg_sload s1) rfl ?_
          refine zb_go (zg_aload_n rfl) rfl ?_
          refine zb_go (zg_iload_n rfl) rfl ?_
          refine zb_go (zg_iconst 2 (by decide)) rfl ?_
          refine zb_go zg_iadd rfl ?_
          refine zb_go (zg_sload s2) rfl ?_
          refine zb_callvx (r_X5_heard hC ok) lL_92 (by repeat (first | assumption | exact z_up_self _ _ _ | refine (z_up_ne (by first | decide | omega)).trans ?_)) rfl rfl (by first | decide | assumption | omega) (by first | decide | omega) rfl (Nat.le_of_ble_eq_true rfl) rfl ?_
          rintro v h1 ⟨rfl, hC1, ok1, sm1⟩
          have hM1 := hM.far sm1
          obtain ⟨fm1, h341⟩ := hM1.obj
          refine zb_go (zg_aload_n rfl) rfl ?_
          refine zb_go (zg_aload_n rfl) rfl ?_
          refine zb_go (zg_iload_n rfl) rfl ?_
          refine zb_go (zg_iconst 1 (by decide)) rfl ?_
          refine zb_go zg_iadd rfl ?_
          refine zb_go (zg_sload s1) rfl ?_
          refine zb_go (zg_aload_n rfl) rfl ?_
          refine zb_go (zg_iload_n rfl) rfl ?_
          refine zb_go (zg_iconst 2 (by decide)) rfl ?_
          refine zb_go zg_iadd rfl ?_
          refine zb_go (zg_sload s2) rfl ?_
          refine zb_callvx (r_X6_heard hM1 ok) lL_95 (by repeat (first | assumption | exact z_up_self _ _ _ | refine (z_up_ne (by first | decide | omega)).trans ?_)) rfl rfl (by first | decide | assumption | omega) (by first | decide | omega) rfl (Nat.le_of_ble_eq_true rfl) rfl ?_
          rintro v h2 ⟨rfl, hM2, sm2⟩
          refine zb_br (zg_icmp_eq (tgt := 851) (by decide)) rfl (fun c1 => ?_) (fun c1 => ?_)
          · exact next h2 _ (hC1.far sm2) hM2 ok1
          · exact absurd rfl c1
        · -- forget
          refine zb_end (len := 120) (zg_tableIn 667 699 (by decide) (by decide) (by rfl) (by decide) ?_) rfl
          refine kL_law_699 ?_
          refine zb_go (zg_aload_n rfl) rfl ?_
          refine zb_callvx (r_X5_forget hC ok) lL_96 (by repeat (first | assumption | exact z_up_self _ _ _ | refine (z_up_ne (by first | decide | omega)).trans ?_)) rfl rfl (by first | decide | assumption | omega) (by first | decide | omega) rfl (Nat.le_of_ble_eq_true rfl) rfl ?_
          rintro v h1 ⟨rfl, hC1, ok1, sm1⟩
          have hM1 := hM.far sm1
          obtain ⟨fm1, h341⟩ := hM1.obj
          refine zb_go (zg_aload_n rfl) rfl ?_
          refine zb_callvx (r_X6_forget hM1 ok) lL_99 (by repeat (first | assumption | exact z_up_self _ _ _ | refine (z_up_ne (by first | decide | omega)).trans ?_)) rfl rfl (by first | decide | assumption | omega) (by first | decide | omega) rfl (Nat.le_of_ble_eq_true rfl) rfl ?_
          rintro v h2 ⟨rfl, hM2, sm2⟩
          refine zb_br (zg_icmp_eq (tgt := 851) (by decide)) rfl (fun c1 => ?_) (fun c1 => ?_)
          · exact next h2 _ (hC1.far sm2) hM2 ok1
          · exact absurd rfl c1
        · -- away
          refine zb_end (len := 120) (zg_tableIn 680 712 (by decide) (by decide) (by rfl) (by decide) ?_) rfl
          refine kL_law_712 ?_
          refine zb_go (zg_aload_n rfl) rfl ?_
          refine zb_go (zg_aload_n rfl) rfl ?_
          refine zb_go (zg_iload_n rfl) rfl ?_
          refine zb_go (zg_iconst 1 (by decide)) rfl ?_
          refine zb_go zg_iadd rfl ?_
          refine zb_go (zg_sload s1) rfl ?_
          refine zb_callv (r_X5_away hC ok) lL_100 (by repeat (first | assumption | exact z_up_self _ _ _ | refine (z_up_ne (by first | decide | omega)).trans ?_)) rfl rfl (by first | decide | assumption | omega) (by first | decide | omega) rfl (Nat.le_of_ble_eq_true rfl) rfl ?_
          refine zb_go (zg_aload_n rfl) rfl ?_
          refine zb_go (zg_aload_n rfl) rfl ?_
          refine zb_go (zg_iload_n rfl) rfl ?_
          refine zb_go (zg_iconst 1 (by decide)) rfl ?_
          refine zb_go zg_iadd rfl ?_
          refine zb_go (zg_sload s1) rfl ?_
          refine zb_callv (r_X6_away hM ok) lL_103 (by repeat (first | assumption | exact z_up_self _ _ _ | refine (z_up_ne (by first | decide | omega)).trans ?_)) rfl rfl (by first | decide | assumption | omega) (by first | decide | omega) rfl (Nat.le_of_ble_eq_true rfl) rfl ?_
          refine zb_br (zg_icmp_eq (tgt := 851) (by decide)) rfl (fun c1 => ?_) (fun c1 => ?_)
          · exact next h G hC hM ok
          · exact absurd rfl c1
        · -- mark
          refine zb_end (len := 120) (zg_tableIn 703 735 (by decide) (by decide) (by rfl) (by decide) ?_) rfl
          refine kL_law_735 ?_
          refine zb_go (zg_aload_n rfl) rfl ?_
          refine zb_go (zg_aload_n rfl) rfl ?_
          refine zb_go (zg_iload_n rfl) rfl ?_
          refine zb_go (zg_iconst 1 (by decide)) rfl ?_
          refine zb_go zg_iadd rfl ?_
          refine zb_go (zg_sload s1) rfl ?_
          refine zb_go (zg_aload_n rfl) rfl ?_
          refine zb_go (zg_iload_n rfl) rfl ?_
          refine zb_go (zg_iconst 2 (by decide)) rfl ?_
          refine zb_go zg_iadd rfl ?_
          refine zb_go (zg_sload s2) rfl ?_
          refine zb_callvx (r_X5_mark hC ok) lL_104 (by repeat (first | assumption | exact z_up_self _ _ _ | refine (z_up_ne (by first | decide | omega)).trans ?_)) rfl rfl (by first | decide | assumption | omega) (by first | decide | omega) rfl (Nat.le_of_ble_eq_true rfl) rfl ?_
          rintro v h1 ⟨rfl, hC1, ok1, sm1⟩
          have hM1 := hM.far sm1
          obtain ⟨fm1, h341⟩ := hM1.obj
          refine zb_go (zg_aload_n rfl) rfl ?_
          refine zb_go (zg_aload_n rfl) rfl ?_
          refine zb_go (zg_iload_n rfl) rfl ?_
          refine zb_go (zg_iconst 1 (by decide)) rfl ?_
          refine zb_go zg_iadd rfl ?_
          refine zb_go (zg_sload s1) rfl ?_
          refine zb_go (zg_aload_n rfl) rfl ?_
          refine zb_go (zg_iload_n rfl) rfl ?_
          refine zb_go (zg_iconst 2 (by decide)) rfl ?_
          refine zb_go zg_iadd rfl ?_
          refine zb_go (zg_sload s2) rfl ?_
          refine zb_callvx (r_X6_mark hM1 ok) lL_107 (by repeat (first | assumption | exact z_up_self _ _ _ | refine (z_up_ne (by first | decide | omega)).trans ?_)) rfl rfl (by first | decide | assumption | omega) (by first | decide | omega) rfl (Nat.le_of_ble_eq_true rfl) rfl ?_
          rintro v h2 ⟨rfl, hM2, sm2⟩
          refine zb_br (zg_icmp_eq (tgt := 851) (by decide)) rfl (fun c1 => ?_) (fun c1 => ?_)
          · exact next h2 _ (hC1.far sm2) hM2 ok1
          · exact absurd rfl c1
        · -- keep
          refine zb_end (len := 120) (zg_tableIn 736 768 (by decide) (by decide) (by rfl) (by decide) ?_) rfl
          refine kL_law_768 ?_
          refine zb_go (zg_aload_n rfl) rfl ?_
          refine zb_go (zg_aload_n rfl) rfl ?_
          refine zb_go (zg_iload_n rfl) rfl ?_
          refine zb_go (zg_iconst 1 (by decide)) rfl ?_
          refine zb_go zg_iadd rfl ?_
          refine zb_go (zg_sload s1) rfl ?_
          refine zb_callvx (r_X5_keep hC ok) lL_108 (by repeat (first | assumption | exact z_up_self _ _ _ | refine (z_up_ne (by first | decide | omega)).trans ?_)) rfl rfl (by first | decide | assumption | omega) (by first | decide | omega) rfl (Nat.le_of_ble_eq_true rfl) rfl ?_
          rintro v h1 ⟨rfl, hC1, ok1, sm1⟩
          have hM1 := hM.far sm1
          obtain ⟨fm1, h341⟩ := hM1.obj
          refine zb_go (zg_aload_n rfl) rfl ?_
          refine zb_go (zg_aload_n rfl) rfl ?_
          refine zb_go (zg_iload_n rfl) rfl ?_
          refine zb_go (zg_iconst 1 (by decide)) rfl ?_
          refine zb_go zg_iadd rfl ?_
          refine zb_go (zg_sload s1) rfl ?_
          refine zb_callvx (r_X6_keep hM1 ok) lL_111 (by repeat (first | assumption | exact z_up_self _ _ _ | refine (z_up_ne (by first | decide | omega)).trans ?_)) rfl rfl (by first | decide | assumption | omega) (by first | decide | omega) rfl (Nat.le_of_ble_eq_true rfl) rfl ?_
          rintro v h2 ⟨rfl, hM2, sm2⟩
          refine zb_br (zg_icmp_eq (tgt := 851) (by decide)) rfl (fun c1 => ?_) (fun c1 => ?_)
          · exact next h2 _ (hC1.far sm2) hM2 ok1
          · exact absurd rfl c1
        · -- back
          refine zb_end (len := 120) (zg_tableIn 759 791 (by decide) (by decide) (by rfl) (by decide) ?_) rfl
          refine kL_law_791 ?_
          refine zb_go (zg_aload_n rfl) rfl ?_
          refine zb_go (zg_aload_n rfl) rfl ?_
          refine zb_go (zg_iload_n rfl) rfl ?_
          refine zb_go (zg_iconst 1 (by decide)) rfl ?_
          refine zb_go zg_iadd rfl ?_
          refine zb_go (zg_sload s1) rfl ?_
          refine zb_callvx (r_X5_back hC ok) lL_112 (by repeat (first | assumption | exact z_up_self _ _ _ | refine (z_up_ne (by first | decide | omega)).trans ?_)) rfl rfl (by first | decide | assumption | omega) (by first | decide | omega) rfl (Nat.le_of_ble_eq_true rfl) rfl ?_
          rintro v h1 ⟨rfl, hC1, ok1, sm1⟩
          have hM1 := hM.far sm1
          obtain ⟨fm1, h341⟩ := hM1.obj
          refine zb_go (zg_aload_n rfl) rfl ?_
          refine zb_go (zg_aload_n rfl) rfl ?_
          refine zb_go (zg_iload_n rfl) rfl ?_
          refine zb_go (zg_iconst 1 (by decide)) rfl ?_
          refine zb_go zg_iadd rfl ?_
          refine zb_go (zg_sload s1) rfl ?_
          refine zb_callvx (r_X6_back hM1 ok) lL_115 (by repeat (first | assumption | exact z_up_self _ _ _ | refine (z_up_ne (by first | decide | omega)).trans ?_)) rfl rfl (by first | decide | assumption | omega) (by first | decide | omega) rfl (Nat.le_of_ble_eq_true rfl) rfl ?_
          rintro v h2 ⟨rfl, hM2, sm2⟩
          refine zb_br (zg_icmp_eq (tgt := 851) (by decide)) rfl (fun c1 => ?_) (fun c1 => ?_)
          · exact next h2 _ (hC1.far sm2) hM2 ok1
          · exact absurd rfl c1
        · -- count
          refine zb_end (len := 120) (zg_tableIn 782 814 (by decide) (by decide) (by rfl) (by decide) ?_) rfl
          refine kL_law_814 ?_
          refine zb_go (zg_aload_n rfl) rfl ?_
          refine zb_go (zg_aload_n rfl) rfl ?_
          refine zb_go (zg_iload_n rfl) rfl ?_
          refine zb_go (zg_iconst 1 (by decide)) rfl ?_
          refine zb_go zg_iadd rfl ?_
          refine zb_go (zg_sload s1) rfl ?_
          refine zb_callv (r_X5_count hC) lL_116 (by repeat (first | assumption | exact z_up_self _ _ _ | refine (z_up_ne (by first | decide | omega)).trans ?_)) rfl rfl (by first | decide | assumption | omega) (by first | decide | omega) rfl (Nat.le_of_ble_eq_true rfl) rfl ?_
          refine zb_go (zg_aload_n rfl) rfl ?_
          refine zb_go (zg_aload_n rfl) rfl ?_
          refine zb_go (zg_iload_n rfl) rfl ?_
          refine zb_go (zg_iconst 1 (by decide)) rfl ?_
          refine zb_go zg_iadd rfl ?_
          refine zb_go (zg_sload s1) rfl ?_
          refine zb_callv (r_X6_count hM ok) lL_119 (by repeat (first | assumption | exact z_up_self _ _ _ | refine (z_up_ne (by first | decide | omega)).trans ?_)) rfl rfl (by first | decide | assumption | omega) (by first | decide | omega) rfl (Nat.le_of_ble_eq_true rfl) rfl ?_
          refine zb_br (zg_icmp_eq (tgt := 851) (by decide)) rfl (fun c1 => ?_) (fun c1 => ?_)
          · exact next h G hC hM ok
          · exact absurd rfl c1
        · -- trace
          refine zb_end (len := 120) (zg_tableIn 805 837 (by decide) (by decide) (by rfl) (by decide) ?_) rfl
          refine kL_law_837 ?_
          refine zb_go (zg_aload_n rfl) rfl ?_
          refine zb_callv (r_X5_trace hC) lL_120 (by repeat (first | assumption | exact z_up_self _ _ _ | refine (z_up_ne (by first | decide | omega)).trans ?_)) rfl rfl (by first | decide | assumption | omega) (by first | decide | omega) rfl (Nat.le_of_ble_eq_true rfl) rfl ?_
          refine zb_go (zg_aload_n rfl) rfl ?_
          refine zb_callv (r_X6_trace hM ok) lL_124 (by repeat (first | assumption | exact z_up_self _ _ _ | refine (z_up_ne (by first | decide | omega)).trans ?_)) rfl rfl (by first | decide | assumption | omega) (by first | decide | omega) rfl (Nat.le_of_ble_eq_true rfl) rfl ?_
          refine zb_go zg_lcmp rfl ?_
          rw [lg_self]
          refine zb_br (zg_if_eq (tgt := 851) (by decide)) rfl (fun c1 => ?_) (fun c1 => ?_)
          · exact next h G hC hM ok
          · exact absurd rfl c1
end
