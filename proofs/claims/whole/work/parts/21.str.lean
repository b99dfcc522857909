/-! STRINGS: length, charAt of the five constants -/
def zKok (K : zK) : Prop := (∀ k : Nat, k < 5 → K.2.2.1 (100 + k) = K.2.2.2.1 k) ∧ ∀ t : Nat, K.2.2.1 (2000 + t) = t
theorem z_adS {K : zK} {ad : Nat → Nat} {i : Nat} (hi : i < 900) : z_ad K ad (1000 + i) = K.2.2.1 i := by
  have q1 : ¬ 1000 + i < 1000 := by omega
  have q2 : ¬ 1000 + i = 2000 := by omega
  have q3 : 1000 + i - 1000 = i := by omega
  simp only [z_ad, if_neg q1, if_neg q2, q3]
theorem z_adT {K : zK} {ad : Nat → Nat} {t : Nat} (hK : zKok K) : z_ad K ad (3000 + t) = t := by
  have q1 : ¬ 3000 + t < 1000 := by omega
  have q2 : ¬ 3000 + t = 2000 := by omega
  have q3 : 3000 + t - 1000 = 2000 + t := by omega
  simp only [z_ad, if_neg q1, if_neg q2, q3, hK.2]
theorem z_adV {K : zK} {ad : Nat → Nat} {i : Nat} (hK : zKok K) (hi : i < 5) : z_ad K ad (1100 + i) = K.2.2.2.1 i := by
  rw [show 1100 + i = 1000 + (100 + i) by omega, z_adS (by omega), hK.1 i hi]
theorem wS_val : Cond.fieldLink RJ0 9 "java/lang/String" "value" "[B" ∈ z_all := z_in (List.mem_of_getElem? (i := 1155) (by decide +kernel)) (by decide +kernel)
theorem wS_cod : Cond.fieldLink RJ0 15 "java/lang/String" "coder" "B" ∈ z_all := z_in (List.mem_of_getElem? (i := 1156) (by decide +kernel)) (by decide +kernel)
theorem wS_com : Cond.fieldLink RJ0 38 "java/lang/String" "COMPACT_STRINGS" "Z" ∈ z_all := z_in (List.mem_of_getElem? (i := 345) (by decide +kernel)) (by decide +kernel)
theorem wS_sio : Cond.fieldLink RJ0 1053 "jdk/internal/util/Preconditions" "SIOOBE_FORMATTER" "Ljava/util/function/BiFunction;" ∈ z_all := z_in (List.mem_of_getElem? (i := 361) (by decide +kernel)) (by decide +kernel)
section
variable {K : zK} {l : Launch} {d : Nat} {M : zM} {pc : Nat} {ls : List (Nat × Value)} {st : List Value} {n : Nat} {h : zH} {mc ms : Nat} {Q : zQ} {i : Nat}
theorem zg_getSval (hK : zKok K) (hi : i < 5) (hM : M.1.cls = RJ0) (hd : decode M.2.1 pc = .ok (.getfield 9, 3)) (kk : zGo K l d M (pc + 3) ls (.ref (1100 + i) :: st) n h mc ms Q) : zGo K l d M pc ls (.ref (1000 + i) :: st) n h mc ms Q := by
  intro p e R s m args below meth c A n0 ad0 ad H locs cells slots MC MS lsA C D
  have k2 := kk p e R s m args below meth c A n0 ad0 ad H locs cells slots MC MS lsA C D
  have e1 : (Value.ref (1100 + i) :: st).map (z_v K ad) = .ref (K.2.2.2.1 i) :: st.map (z_v K ad) := by
    simp only [List.map_cons, z_v, z_adV hK hi]
  have e2 : (Value.ref (1000 + i) :: st).map (z_v K ad) = .ref (K.2.2.1 i) :: st.map (z_v K ad) := by
    simp only [List.map_cons, z_v, z_adS (show i < 900 by omega)]
  rw [e1] at k2
  rw [e2]
  obtain ⟨-, hv, -⟩ := C.2.2.2.2.2.2.2.2.1
  exact vk_getf C.1 C.2.1 (hv.1 i hi).2.2.1 D.2.2.2.2.2.2.2.1 (hM ▸ C.2.2.2.2.1) (C.2.2.2.2.2.2.1 _ wS_val) (fun _ h => h) hd k2
theorem zg_getScod (hi : i < 5) (hM : M.1.cls = RJ0) (hd : decode M.2.1 pc = .ok (.getfield 15, 3)) (kk : zGo K l d M (pc + 3) ls (.int 0 :: st) n h mc ms Q) : zGo K l d M pc ls (.ref (1000 + i) :: st) n h mc ms Q := by
  intro p e R s m args below meth c A n0 ad0 ad H locs cells slots MC MS lsA C D
  have k2 := kk p e R s m args below meth c A n0 ad0 ad H locs cells slots MC MS lsA C D
  have e2 : (Value.ref (1000 + i) :: st).map (z_v K ad) = .ref (K.2.2.1 i) :: st.map (z_v K ad) := by
    simp only [List.map_cons, z_v, z_adS (show i < 900 by omega)]
  rw [e2]
  obtain ⟨-, hv, -⟩ := C.2.2.2.2.2.2.2.2.1
  exact vk_getf C.1 C.2.1 (hv.1 i hi).2.1 D.2.2.2.2.2.2.2.1 (hM ▸ C.2.2.2.2.1) (C.2.2.2.2.2.2.1 _ wS_cod) (fun _ h => h) hd k2
theorem zg_getZc (hM : M.1.cls = RJ0) (hd : decode M.2.1 pc = .ok (.getstatic 38, 3)) (kk : zGo K l d M (pc + 3) ls (.int 1 :: st) n h mc ms Q) : zGo K l d M pc ls st n h mc ms Q := by
  intro p e R s m args below meth c A n0 ad0 ad H locs cells slots MC MS lsA C D
  have k2 := kk p e R s m args below meth c A n0 ad0 ad H locs cells slots MC MS lsA C D
  obtain ⟨-, -, -, hz, -⟩ := C.2.2.2.2.2.2.2.2.1
  exact va_gets C.1 C.2.1 hz D.2.2.2.2.2.2.2.1 (hM ▸ C.2.2.2.2.1) (C.2.2.2.2.2.2.1 _ wS_com) (fun _ h => h) hd k2
theorem zg_getZq (hK : zKok K) (hM : M.1.cls = RJ0) (hd : decode M.2.1 pc = .ok (.getstatic 1053, 3)) (kk : ∀ v : Value, v.category = 1 → zGo K l d M (pc + 3) ls (v :: st) n h mc ms Q) : zGo K l d M pc ls st n h mc ms Q := by
  intro p e R s m args below meth c A n0 ad0 ad H locs cells slots MC MS lsA C D
  obtain ⟨-, -, -, -, hz, -⟩ := C.2.2.2.2.2.2.2.2.1
  rcases hz with hz | ⟨t, hz⟩
  · have k2 := kk .null rfl p e R s m args below meth c A n0 ad0 ad H locs cells slots MC MS lsA C D
    exact va_gets C.1 C.2.1 hz D.2.2.2.2.2.2.2.1 (hM ▸ C.2.2.2.2.1) (C.2.2.2.2.2.2.1 _ wS_sio) (fun _ h => h) hd k2
  · have k2 := kk (.ref (3000 + t)) rfl p e R s m args below meth c A n0 ad0 ad H locs cells slots MC MS lsA C D
    have e1 : (Value.ref (3000 + t) :: st).map (z_v K ad) = .ref t :: st.map (z_v K ad) := by
      simp only [List.map_cons, z_v, z_adT hK]
    rw [e1] at k2
    exact va_gets C.1 C.2.1 hz D.2.2.2.2.2.2.2.1 (hM ▸ C.2.2.2.2.1) (C.2.2.2.2.2.2.1 _ wS_sio) (fun _ h => h) hd k2
theorem zg_Slen (hK : zKok K) (hi : i < 5) (hd : decode M.2.1 pc = .ok (.arraylength, 1)) (kk : zGo K l d M (pc + 1) ls (.int (nI (z_len.getD i 0)) :: st) n h mc ms Q) : zGo K l d M pc ls (.ref (1100 + i) :: st) n h mc ms Q := by
  intro p e R s m args below meth c A n0 ad0 ad H locs cells slots MC MS lsA C D
  have k2 := kk p e R s m args below meth c A n0 ad0 ad H locs cells slots MC MS lsA C D
  have e1 : (Value.ref (1100 + i) :: st).map (z_v K ad) = .ref (K.2.2.2.1 i) :: st.map (z_v K ad) := by
    simp only [List.map_cons, z_v, z_adV hK hi]
  rw [e1]
  obtain ⟨-, hv, -⟩ := C.2.2.2.2.2.2.2.2.1
  exact va_tlen C.1 C.2.1 (hv.1 i hi).2.2.2 D.2.2.2.2.2.2.2.1 rfl hd k2
theorem zg_Sbald {k : Nat} (hK : zKok K) (hi : i < 5) (hk : k < z_len.getD i 0) (hd : decode M.2.1 pc = .ok (.baload, 1)) (kk : zGo K l d M (pc + 1) ls (.int ((z_byt.getD i []).getD k 0) :: st) n h mc ms Q) : zGo K l d M pc ls (.int (nI k) :: .ref (1100 + i) :: st) n h mc ms Q := by
  intro p e R s m args below meth c A n0 ad0 ad H locs cells slots MC MS lsA C D
  have k2 := kk p e R s m args below meth c A n0 ad0 ad H locs cells slots MC MS lsA C D
  have e1 : (Value.int (nI k) :: Value.ref (1100 + i) :: st).map (z_v K ad) = .int (nI k) :: .ref (K.2.2.2.1 i) :: st.map (z_v K ad) := by
    simp only [List.map_cons, z_v, z_adV hK hi]
  rw [e1]
  obtain ⟨-, hv, -⟩ := C.2.2.2.2.2.2.2.2.1
  have hlen : z_len.getD i 0 ≤ 6 := (by decide : ∀ i, i < 5 → z_len.getD i 0 ≤ 6) i hi
  exact va_tb C.1 C.2.1 (hv.1 i hi).2.2.2 D.2.2.2.2.2.2.2.1 (vp_in_nI hk (by omega)) (by rw [nI_clamp (by omega)]; rfl) hd k2
theorem zg_i2c {x : Int32} (hd : decode M.2.1 pc = .ok (.i2c, 1)) (k : zGo K l d M (pc + 1) ls (.int (x.toUInt32 % 65536).toInt32 :: st) n h mc ms Q) : zGo K l d M pc ls (.int x :: st) n h mc ms Q := by
  intro p e R s m args below meth c A n0 ad0 ad H locs cells slots MC MS lsA C D
  exact lv_i2c C.1 C.2.1 hd rfl (k p e R s m args below meth c A n0 ad0 ad H locs cells slots MC MS lsA C D)
theorem zb_callS {p idx fin : Nat} {bs : List (Nat × Instr)} {d' na : Nat} {M' : zM} {av rest : List Value} {v : Option Value} {h' : zH} (hi : i < 5) (hr : zRet K l d' M' (.ref (1000 + i) :: av) n h v h') (hm : zMl 0 M.1.cls idx M' na) (hcl : M'.1.cls = RJ0) (hst : st = av.reverse ++ .ref (1000 + i) :: rest) (hd' : d' + 1 ≤ d) (hna : av.length = na) (hrest : (rest.map fun v => v.category).sum ≤ 8) (hlen : zhd bs fin = p + 3) (k : zGb K l d M bs fin ls (v.toList ++ rest) n h' 0 0 Q) : zGb K l d M ((p, .invokevirtual idx) :: bs) fin ls st n h 0 0 Q := by
  intro ok
  obtain ⟨o1, o2⟩ := zb_ok ok hlen
  have k2 := k o2
  rw [hlen] at k2
  intro p' e R s m args below meth c A n0 ad0 ad H locs cells slots MC MS lsA C D
  subst hst
  have C' := C
  have D' := D
  obtain ⟨C1, C2, C3, C4, C5, C6, C7, C8, C9, C10, C11, C12, C13, C14⟩ := C'
  obtain ⟨D1, D2, D3, D4, D5, D6, D7, D8, D9⟩ := D'
  have m6 : Cond.methodLink M.1.cls idx M'.1 ∈ z_all ∧ Cond.instanceMethod M'.1 ∈ z_all ∧ Cond.selects M'.1.cls M'.1 M'.1 ∈ z_all := hm.2.2.2.2.2
  obtain ⟨cell, hcell, hobj, hfc⟩ := vk_recv C9.2.1 hi D8
  have hfc : s.vm.findClass M'.1.cls = some cell.cls := by rw [hcl]; exact hfc
  rw [← z_adS (ad := ad) (show i < 900 by omega)] at hcell
  have hp : PreV s H M'.1.cls (z_ad K ad (1000 + i)) (z_Pc K ad n h H.size (.ref (1000 + i) :: av)) (av.map (z_v K ad)) := ⟨z_blind, ⟨cell, hcell, hobj, hfc⟩, z_pre (av := .ref (1000 + i) :: av) C D⟩
  have hrun := va_runV (g := F0 m p lsA ((av.reverse ++ .ref (1000 + i) :: rest).map (z_v K ad))) (rest := rest.map (z_v K ad)) (cells := cells) (slots := slots) (locs := locs) (below := below) (e := e) (meth := meth) ⟨C1, C2, C4, C5, C7⟩ (hr ad H.size) ⟨z_callB (mc' := 0) (ms' := 0) C hm m6.1 hd', C7 _ m6.2.1, C7 _ m6.2.2⟩ hp rfl (by rw [List.length_map]; exact hna) D9.1 (by simp [z_v]) (by
    have e1 : ((rest.map (z_v K ad)).map fun v => v.category) = rest.map fun v => v.category := by
      rw [List.map_map]; exact List.map_congr_left (fun v _ => z_v_cat K ad v)
    show 2 * 0 + _ ≤ 8
    rw [e1]; omega) o1 ⟨by omega, by omega⟩
  exact z_called C D (Nat.zero_le _) (Nat.zero_le _) hrun (fun v1 n1 h1 q => by
    obtain ⟨rfl, rfl, rfl⟩ := q
    exact ⟨Or.inl rfl, k2⟩)
end
section
variable {K : zK} {l : Launch} {n i k : Nat} {h : zH}
theorem r_S_coder (hi : i < 5) : zRet K l 0 mJ0_coder_7d493 [.ref (1000 + i)] n h (some (.int 0)) h := by
  refine zRet.of (by decide) (Nat.le_of_ble_eq_true rfl) (fun Q hQ => ?_)
  refine kJ0_coder_7d493_0 ?_
  refine zb_go (zg_getZc rfl) rfl ?_
  refine zb_br (zg_if_eq (tgt := 13) (by decide)) rfl (fun c => ?_) (fun c => ?_)
  · exact absurd c (by decide)
  · refine zb_go (zg_aload_n rfl) rfl ?_
    refine zb_go (zg_getScod hi rfl) rfl ?_
    refine zb_end (zg_goto (tgt := 14) (by decide) ?_) rfl
    refine kJ0_coder_7d493_14 ?_
    refine zb_end (zg_ireturn rfl (by rfl) ?_) rfl
    exact hQ
theorem r_S_isLatin1 (hi : i < 5) : zRet K l 0 mJ0_isLatin1_aae02 [.ref (1000 + i)] n h (some (.int 1)) h := by
  refine zRet.of (by decide) (Nat.le_of_ble_eq_true rfl) (fun Q hQ => ?_)
  refine kJ0_isLatin1_aae02_0 ?_
  refine zb_go (zg_getZc rfl) rfl ?_
  refine zb_br (zg_if_eq (tgt := 17) (by decide)) rfl (fun c => ?_) (fun c => ?_)
  · exact absurd c (by decide)
  · refine zb_go (zg_aload_n rfl) rfl ?_
    refine zb_go (zg_getScod hi rfl) rfl ?_
    refine zb_br (zg_if_ne (tgt := 17) (by decide)) rfl (fun c1 => ?_) (fun c1 => ?_)
    · exact absurd rfl c1
    · refine zb_go (zg_iconst 1 (by decide)) rfl ?_
      refine zb_end (zg_goto (tgt := 18) (by decide) ?_) rfl
      refine kJ0_isLatin1_aae02_18 ?_
      refine zb_end (zg_ireturn rfl (by rfl) ?_) rfl
      exact hQ
theorem r_S_length (hK : zKok K) (hi : i < 5) : zRet K l 1 mJ0_length_8abf5 [.ref (1000 + i)] n h (some (.int (nI (z_len.getD i 0)))) h := by
  refine zRet.of (by decide) (Nat.le_of_ble_eq_true rfl) (fun Q hQ => ?_)
  have hlen : z_len.getD i 0 ≤ 6 := (by decide : ∀ i, i < 5 → z_len.getD i 0 ≤ 6) i hi
  refine kJ0_length_8abf5_0 ?_
  refine zb_go (zg_aload_n rfl) rfl ?_
  refine zb_go (zg_getSval hK hi rfl) rfl ?_
  refine zb_go (zg_Slen hK hi) rfl ?_
  refine zb_go (zg_aload_n rfl) rfl ?_
  refine zb_callS hi (r_S_coder hi) lJ0_335 rfl rfl (by decide) rfl (Nat.le_of_ble_eq_true rfl) rfl ?_
  refine zb_go zg_ishr rfl ?_
  refine zb_end (zg_ireturn rfl (by rfl) ?_) rfl
  rw [show (0 : Int32) = nI 0 from rfl, z_shr (by omega) (by decide)]
  exact hQ
theorem r_S_check3 {v : Value} (hv : v.category = 1) {a b : Nat} (hab : a < b) (hb : b < 2 ^ 31) : zRet K l 0 mJ3_checkIndex_8e157 [.int (nI a), .int (nI b), v] n h (some (.int (nI a))) h := by
  refine zRet.of (by decide) (by cases v <;> first | exact Nat.le_of_ble_eq_true rfl | simp [Value.category] at hv) (fun Q hQ => ?_)
  have e : lv_args 0 [.int (nI a), .int (nI b), v] = [(0, .int (nI a)), (1, .int (nI b)), (2, v)] := by
    simp [lv_args, Value.category]
  rw [e]
  refine kJ3_checkIndex_8e157_0 ?_
  refine zb_go (zg_iload_n rfl) rfl ?_
  refine zb_br (zg_if_lt (tgt := 9) (by decide)) rfl (fun c0 => ?_) (fun c0 => ?_)
  · exact absurd c0 (nI_pos (by omega))
  · refine zb_go (zg_iload_n rfl) rfl ?_
    refine zb_go (zg_iload_n rfl) rfl ?_
    refine zb_br (zg_icmp_lt (tgt := 16) (by decide)) rfl (fun c1 => ?_) (fun c1 => ?_)
    · refine kJ3_checkIndex_8e157_16 ?_
      refine zb_go (zg_iload_n rfl) rfl ?_
      refine zb_end (zg_ireturn rfl (by rfl) ?_) rfl
      exact hQ
    · exact absurd (nI_lt hab hb) c1
theorem r_S_check2 (hK : zKok K) {a b : Nat} (hab : a < b) (hb : b < 2 ^ 31) : zRet K l 1 mJ0_checkIndex_df160 [.int (nI a), .int (nI b)] n h none h := by
  refine zRet.of (by decide) (Nat.le_of_ble_eq_true rfl) (fun Q hQ => ?_)
  refine kJ0_checkIndex_df160_0 ?_
  refine zb_go (zg_iload_n rfl) rfl ?_
  refine zb_go (zg_iload_n rfl) rfl ?_
  intro ok
  obtain ⟨o1, o2⟩ := zb_ok (len := 3) ok rfl
  refine zg_getZq hK rfl o1 (fun v hv => ?_)
  refine (?_ : zGb K l 1 mJ0_checkIndex_df160 [(5, .invokestatic 1059), (8, .pop), (9, .return_)] 10 _ _ n h 0 0 Q) o2
  refine zb_calls (r_S_check3 hv hab hb) lJ0_1059 rfl (by decide) rfl (Nat.le_of_ble_eq_true rfl) rfl ?_
  refine zb_go (zg_pop rfl) rfl ?_
  refine zb_end (zg_return rfl ?_) rfl
  exact hQ
theorem z_chr : ∀ i, i < 5 → ∀ k, k < z_len.getD i 0 → (((z_byt.getD i []).getD k 0 &&& 255).toUInt32 % 65536).toInt32 = (z_byt.getD i []).getD k 0 := by decide +kernel
theorem z_chn : ∀ i, i < 5 → ∀ k, k < z_len.getD i 0 → narrow .char (.int ((z_byt.getD i []).getD k 0)) = .int ((z_byt.getD i []).getD k 0) := by decide +kernel
theorem r_S_charAt1 (hK : zKok K) (hi : i < 5) (hk : k < z_len.getD i 0) : zRet K l 2 mJ1_charAt_3b067 [.ref (1100 + i), .int (nI k)] n h (some (.int ((z_byt.getD i []).getD k 0))) h := by
  refine zRet.of (by decide) (Nat.le_of_ble_eq_true rfl) (fun Q hQ => ?_)
  have hlen : z_len.getD i 0 ≤ 6 := (by decide : ∀ i, i < 5 → z_len.getD i 0 ≤ 6) i hi
  refine kJ1_charAt_3b067_0 ?_
  refine zb_go (zg_iload_n rfl) rfl ?_
  refine zb_go (zg_aload_n rfl) rfl ?_
  refine zb_go (zg_Slen hK hi) rfl ?_
  refine zb_calls (r_S_check2 hK hk (by omega)) lJ1_9 rfl (by decide) rfl (Nat.le_of_ble_eq_true rfl) rfl ?_
  refine zb_go (zg_aload_n rfl) rfl ?_
  refine zb_go (zg_iload_n rfl) rfl ?_
  refine zb_go (zg_Sbald hK hi hk) rfl ?_
  refine zb_go (zg_sipush 255 (by decide)) rfl ?_
  refine zb_go zg_iand rfl ?_
  refine zb_go zg_i2c rfl ?_
  rw [z_chr i hi k hk]
  refine zb_end (zg_ireturn rfl (z_chn i hi k hk) ?_) rfl
  exact hQ
theorem r_S_charAt (hK : zKok K) (hi : i < 5) (hk : k < z_len.getD i 0) : zRet K l 3 mJ0_charAt_5068e [.ref (1000 + i), .int (nI k)] n h (some (.int ((z_byt.getD i []).getD k 0))) h := by
  refine zRet.of (by decide) (Nat.le_of_ble_eq_true rfl) (fun Q hQ => ?_)
  refine kJ0_charAt_5068e_0 ?_
  refine zb_go (zg_aload_n rfl) rfl ?_
  refine zb_callS hi (r_S_isLatin1 hi) lJ0_492 rfl rfl (by decide) rfl (Nat.le_of_ble_eq_true rfl) rfl ?_
  refine zb_br (zg_if_eq (tgt := 16) (by decide)) rfl (fun c => ?_) (fun c => ?_)
  · exact absurd c (by decide)
  · refine zb_go (zg_aload_n rfl) rfl ?_
    refine zb_go (zg_getSval hK hi rfl) rfl ?_
    refine zb_go (zg_iload_n rfl) rfl ?_
    refine zb_calls (r_S_charAt1 hK hi hk) lJ0_495 rfl (by decide) rfl (Nat.le_of_ble_eq_true rfl) rfl ?_
    refine zb_end (zg_ireturn rfl (z_chn i hi k hk) ?_) rfl
    exact hQ
end
