/-! THE LAW: its start -/
theorem zWfh.new {n : Nat} {h : zH} {e : va_E} (hw : zWfh n h) (he : zLe (n + 1) e) : zWfh (n + 1) (z_up h n e) := by
  intro k hk
  by_cases q : k = n
  · subst q; rw [z_up_self]; exact he
  · rw [z_up_ne q]; exact (hw k (by omega)).mono (by omega)
theorem wnL5 : zNw RL 7 4 [.null, .null, .null, .null, .null, .null, .null, .long 0] 8 := ⟨(RX5, TX5, 8), rfl, rfl, z_in (List.mem_of_getElem? (i := 74) (by decide +kernel)) (by decide +kernel), z_in (List.mem_of_getElem? (i := 75) (by decide +kernel)) (by decide +kernel), wi_X5, (fun j hj => match j, hj with | 0, _ => rfl | 1, _ => rfl | 2, _ => rfl | 3, _ => rfl | 4, _ => rfl | 5, _ => rfl | 6, _ => rfl | 7, _ => rfl | _ + 8, hj => absurd hj (by show ¬ _ + 8 < 8; omega)), fun K ad => rfl⟩
theorem wnL6 : zNw RL 10 5 (.long 0 :: .null :: .int 0 :: .null :: .null :: .null :: .null :: .null :: .null :: .null :: .null :: .null :: .null :: .int 0 :: .int 0 :: .int 0 :: .int 0 :: .int 0 :: .int 0 :: .null :: .null :: .null :: .null :: .null :: .null :: .null :: .null :: .null :: .null :: .null :: .int 0 :: .int 0 :: .int 0 :: .int 0 :: .null :: .null :: []) 36 := ⟨(RX6, TX6, 36), rfl, rfl, z_in (List.mem_of_getElem? (i := 792) (by decide +kernel)) (by decide +kernel), z_in (List.mem_of_getElem? (i := 793) (by decide +kernel)) (by decide +kernel), wi_X6, (fun j hj => match j, hj with | 0, _ => rfl | 1, _ => rfl | 2, _ => rfl | 3, _ => rfl | 4, _ => rfl | 5, _ => rfl | 6, _ => rfl | 7, _ => rfl | 8, _ => rfl | 9, _ => rfl | 10, _ => rfl | 11, _ => rfl | 12, _ => rfl | 13, _ => rfl | 14, _ => rfl | 15, _ => rfl | 16, _ => rfl | 17, _ => rfl | 18, _ => rfl | 19, _ => rfl | 20, _ => rfl | 21, _ => rfl | 22, _ => rfl | 23, _ => rfl | 24, _ => rfl | 25, _ => rfl | 26, _ => rfl | 27, _ => rfl | 28, _ => rfl | 29, _ => rfl | 30, _ => rfl | 31, _ => rfl | 32, _ => rfl | 33, _ => rfl | 34, _ => rfl | 35, _ => rfl | _ + 36, hj => absurd hj (by show ¬ _ + 36 < 36; omega)), fun K ad => rfl⟩
theorem r_L_law {K : zK} {l : Launch} {h : zH} (hK : zKok K) (hL : K.2.2.2.2.2.1 ≤ 2048) (Q : zQ) (hQ : ∀ n h, Q (some (.int 1)) n h) : zGo K l 12 mL_law 0 [(0, .ref 2000)] [] 0 h 59 2099 Q := by
  refine kL_law_0 ?_
  have hz : zLt 0 (.ref 2000) := Or.inr (by decide)
  refine zb_go (zg_new wnL5 (by decide) (fun k hk => absurd hk (Nat.not_lt_zero _)) (zWf_l hz zWf_nil) (by decide) (by decide)) rfl ?_
  refine zb_go (zg_dup rfl) rfl ?_
  have hw0 : zWfh 0 h := fun k hk => absurd hk (Nat.not_lt_zero _)
  refine zb_calli (r_X5_init (z_up_self _ _ _) (hw0.new (zLd rfl))) lL_9 rfl (by decide) (Nat.le_of_ble_eq_true rfl) (by decide) (by decide) (zWf_l (Or.inr (by decide)) (zWf_s (Or.inl (by decide)) zWf_nil)) rfl ?_
  rintro n1 h1 ⟨rfl, hC, hw⟩
  refine zb_go (zg_astore_n (by decide)) rfl ?_
  refine zb_go (zg_new wnL6 (by decide) hw (zWf_l (Or.inr (by decide)) (zWf_l (Or.inl (by decide)) zWf_nil)) (by decide) (by decide)) rfl ?_
  refine zb_go (zg_dup rfl) rfl ?_
  refine zb_calli (r_X6_init (z_up_self _ _ _) (hw.new (zLd rfl))) lL_12 rfl (by decide) (Nat.le_of_ble_eq_true rfl) (by decide) (by decide) (zWf_l (Or.inr (by decide)) (zWf_l (Or.inl (by decide)) (zWf_s (Or.inl (by decide)) zWf_nil))) rfl ?_
  rintro n2 h2 ⟨rfl, hM, s⟩
  refine zb_go (zg_astore_n (by decide)) rfl ?_
  refine zb_go (zg_iconst 0 (by decide)) rfl ?_
  refine zb_go (zg_istore_n (by decide)) rfl ?_
  refine zb_out ?_
  have hC2 : cRel h2 gZero := hC.far (fun k hk => (s k hk).trans (z_up_ne (by omega)))
  exact r_L_loop hK hL Q hQ K.2.2.2.2.2.1 0 h2 gZero (by omega) (by decide) hC2 hM (okS_new (G := gZero) okP_0)
