/-! the JDK's static methods -/
section
variable {K : zK} {l : Launch} {n : Nat} {h : zH} {x y : Int32} {u v : Int64}
def z_us (x y : Int32) : Int32 := (x.toUInt32 >>> (y.toUInt32 &&& Int32.toUInt32 31)).toInt32
def z_bc1 (x : Int32) : Int32 := x - (z_us x 1 &&& 1431655765)
def z_bc2 (x : Int32) : Int32 := (x &&& 858993459) + (z_us x 2 &&& 858993459)
def z_bc3 (x : Int32) : Int32 := (x + z_us x 4) &&& 252645135
def z_bc4 (x : Int32) : Int32 := x + z_us x 8
def z_bc5 (x : Int32) : Int32 := x + z_us x 16
def z_bcE (x : Int32) : Int32 := z_bc5 (z_bc4 (z_bc3 (z_bc2 (z_bc1 x)))) &&& 63
theorem z_bc : ∀ s, s < 64 → z_bcE (nI s) = nI (zpop s) := by decide +kernel
theorem r_bitCount {s : Nat} (hs : s < 64) : zRet K l 0 mJ6_bitCount_0f7a4 [.int (nI s)] n h (some (.int (nI (zpop s)))) h := by
  refine zRet.of (by decide) (Nat.le_of_ble_eq_true rfl) (fun Q hQ => ?_)
  rw [← z_bc s hs] at hQ
  refine kJ6_bitCount_0f7a4_0 ?_
  refine zb_go (zg_iload_n rfl) rfl ?_
  refine zb_go (zg_iload_n rfl) rfl ?_
  refine zb_go (zg_iconst 1 (by decide)) rfl ?_
  refine zb_go zg_iushr rfl ?_
  refine zb_go (zg_ldc_w cJ6_265) rfl ?_
  refine zb_go zg_iand rfl ?_
  refine zb_go zg_isub rfl ?_
  refine zb_go (zg_istore_n (by decide)) rfl ?_
  refine zb_go (zg_iload_n rfl) rfl ?_
  refine zb_go (zg_ldc_w cJ6_266) rfl ?_
  refine zb_go zg_iand rfl ?_
  refine zb_go (zg_iload_n rfl) rfl ?_
  refine zb_go (zg_iconst 2 (by decide)) rfl ?_
  refine zb_go zg_iushr rfl ?_
  refine zb_go (zg_ldc_w cJ6_266) rfl ?_
  refine zb_go zg_iand rfl ?_
  refine zb_go zg_iadd rfl ?_
  refine zb_go (zg_istore_n (by decide)) rfl ?_
  refine zb_go (zg_iload_n rfl) rfl ?_
  refine zb_go (zg_iload_n rfl) rfl ?_
  refine zb_go (zg_iconst 4 (by decide)) rfl ?_
  refine zb_go zg_iushr rfl ?_
  refine zb_go zg_iadd rfl ?_
  refine zb_go (zg_ldc_w cJ6_267) rfl ?_
  refine zb_go zg_iand rfl ?_
  refine zb_go (zg_istore_n (by decide)) rfl ?_
  refine zb_go (zg_iload_n rfl) rfl ?_
  refine zb_go (zg_iload_n rfl) rfl ?_
  refine zb_go (zg_bipush 8 (by decide)) rfl ?_
  refine zb_go zg_iushr rfl ?_
  refine zb_go zg_iadd rfl ?_
  refine zb_go (zg_istore_n (by decide)) rfl ?_
  refine zb_go (zg_iload_n rfl) rfl ?_
  refine zb_go (zg_iload_n rfl) rfl ?_
  refine zb_go (zg_bipush 16 (by decide)) rfl ?_
  refine zb_go zg_iushr rfl ?_
  refine zb_go zg_iadd rfl ?_
  refine zb_go (zg_istore_n (by decide)) rfl ?_
  refine zb_go (zg_iload_n rfl) rfl ?_
  refine zb_go (zg_bipush 63 (by decide)) rfl ?_
  refine zb_go zg_iand rfl ?_
  refine zb_end (zg_ireturn rfl (by rfl) ?_) rfl
  exact hQ
end
theorem wq_mmax : Cond.code Lib.Math.max.name Lib.Math.max.code 2 (some .int) ∈ z_all := z_in (List.mem_of_getElem? (i := 572) (by decide +kernel)) (by decide +kernel)
theorem wr_mmax : Cond.static Lib.Math.max.name ∈ z_all := z_in (List.mem_of_getElem? (i := 571) (by decide +kernel)) (by decide +kernel)
theorem zg_mmax {K : zK} {l : Launch} {d : Nat} {M : zM} {pc : Nat} {ls : List (Nat × Value)} {st : List Value} {n : Nat} {h : zH} {mc ms : Nat} {Q : zQ} {idx : Nat} {x y : Int32} (hm : Cond.methodLink M.1.cls idx Lib.Math.max.name ∈ z_all) (hd1 : 1 ≤ d) (hrest : (st.map fun v => v.category).sum ≤ 8) (hd : decode M.2.1 pc = .ok (.invokestatic idx, 3)) (kk : zGo K l d M (pc + 3) ls (.int (if x < y then y else x) :: st) n h mc ms Q) : zGo K l d M pc ls (.int y :: .int x :: st) n h mc ms Q := by
  intro p e R s m args below meth c A n0 ad0 ad H locs cells slots MC MS lsA C D
  have k2 := kk p e R s m args below meth c A n0 ad0 ad H locs cells slots MC MS lsA C D
  have e1 : ((st.map (z_v K ad)).map fun v => v.category) = st.map fun v => v.category := by
    rw [List.map_map]; exact List.map_congr_left (fun v _ => z_v_cat K ad v)
  obtain ⟨C1, C2, C3, C4, C5, C6, C7, C8, C9, C10, C11, C12, C13, C14⟩ := C
  obtain ⟨D1, D2, D3, D4, D5, D6, D7, D8, D9⟩ := D
  exact va_mmax C1 C2 (by rw [C4]; exact D9.1.symm) C5 (C7 _ hm) (C7 _ wr_mmax) (C7 _ wi_J9) (C7 _ wq_mmax) (by omega) (by rw [e1]; omega) (by omega) (by omega) hd k2
theorem wq_mmin : Cond.code Lib.Math.min.name Lib.Math.min.code 2 (some .int) ∈ z_all := z_in (List.mem_of_getElem? (i := 403) (by decide +kernel)) (by decide +kernel)
theorem wr_mmin : Cond.static Lib.Math.min.name ∈ z_all := z_in (List.mem_of_getElem? (i := 402) (by decide +kernel)) (by decide +kernel)
theorem zg_mmin {K : zK} {l : Launch} {d : Nat} {M : zM} {pc : Nat} {ls : List (Nat × Value)} {st : List Value} {n : Nat} {h : zH} {mc ms : Nat} {Q : zQ} {idx : Nat} {x y : Int32} (hm : Cond.methodLink M.1.cls idx Lib.Math.min.name ∈ z_all) (hd1 : 1 ≤ d) (hrest : (st.map fun v => v.category).sum ≤ 8) (hd : decode M.2.1 pc = .ok (.invokestatic idx, 3)) (kk : zGo K l d M (pc + 3) ls (.int (if y < x then y else x) :: st) n h mc ms Q) : zGo K l d M pc ls (.int y :: .int x :: st) n h mc ms Q := by
  intro p e R s m args below meth c A n0 ad0 ad H locs cells slots MC MS lsA C D
  have k2 := kk p e R s m args below meth c A n0 ad0 ad H locs cells slots MC MS lsA C D
  have e1 : ((st.map (z_v K ad)).map fun v => v.category) = st.map fun v => v.category := by
    rw [List.map_map]; exact List.map_congr_left (fun v _ => z_v_cat K ad v)
  obtain ⟨C1, C2, C3, C4, C5, C6, C7, C8, C9, C10, C11, C12, C13, C14⟩ := C
  obtain ⟨D1, D2, D3, D4, D5, D6, D7, D8, D9⟩ := D
  exact va_mmin C1 C2 (by rw [C4]; exact D9.1.symm) C5 (C7 _ hm) (C7 _ wr_mmin) (C7 _ wi_J9) (C7 _ wq_mmin) (by omega) (by rw [e1]; omega) (by omega) (by omega) hd k2
theorem wq_mabs : Cond.code Lib.Math.abs.name Lib.Math.abs.code 1 (some .int) ∈ z_all := z_in (List.mem_of_getElem? (i := 499) (by decide +kernel)) (by decide +kernel)
theorem wr_mabs : Cond.static Lib.Math.abs.name ∈ z_all := z_in (List.mem_of_getElem? (i := 498) (by decide +kernel)) (by decide +kernel)
theorem zg_mabs {K : zK} {l : Launch} {d : Nat} {M : zM} {pc : Nat} {ls : List (Nat × Value)} {st : List Value} {n : Nat} {h : zH} {mc ms : Nat} {Q : zQ} {idx : Nat} {x : Int32} (hm : Cond.methodLink M.1.cls idx Lib.Math.abs.name ∈ z_all) (hd1 : 1 ≤ d) (hrest : (st.map fun v => v.category).sum ≤ 8) (hd : decode M.2.1 pc = .ok (.invokestatic idx, 3)) (kk : zGo K l d M (pc + 3) ls (.int (if 0 ≤ x then x else 0 - x) :: st) n h mc ms Q) : zGo K l d M pc ls (.int x :: st) n h mc ms Q := by
  intro p e R s m args below meth c A n0 ad0 ad H locs cells slots MC MS lsA C D
  have k2 := kk p e R s m args below meth c A n0 ad0 ad H locs cells slots MC MS lsA C D
  have e1 : ((st.map (z_v K ad)).map fun v => v.category) = st.map fun v => v.category := by
    rw [List.map_map]; exact List.map_congr_left (fun v _ => z_v_cat K ad v)
  obtain ⟨C1, C2, C3, C4, C5, C6, C7, C8, C9, C10, C11, C12, C13, C14⟩ := C
  obtain ⟨D1, D2, D3, D4, D5, D6, D7, D8, D9⟩ := D
  exact va_mabs C1 C2 (by rw [C4]; exact D9.1.symm) C5 (C7 _ hm) (C7 _ wr_mabs) (C7 _ wi_J9) (C7 _ wq_mabs) (by omega) (by rw [e1]; omega) (by omega) (by omega) hd k2
theorem wq_mminL : Cond.code Lib.MathLoose.min_long.x Lib.MathLoose.min_long.code 4 (some .long) ∈ z_all := z_in (List.mem_of_getElem? (i := 616) (by decide +kernel)) (by decide +kernel)
theorem wr_mminL : Cond.static Lib.MathLoose.min_long.x ∈ z_all := z_in (List.mem_of_getElem? (i := 615) (by decide +kernel)) (by decide +kernel)
theorem zg_mminL {K : zK} {l : Launch} {d : Nat} {M : zM} {pc : Nat} {ls : List (Nat × Value)} {st : List Value} {n : Nat} {h : zH} {mc ms : Nat} {Q : zQ} {idx : Nat} {x y : Int64} (hm : Cond.methodLink M.1.cls idx Lib.MathLoose.min_long.x ∈ z_all) (hd1 : 1 ≤ d) (hrest : (st.map fun v => v.category).sum ≤ 8) (hd : decode M.2.1 pc = .ok (.invokestatic idx, 3)) (kk : zGo K l d M (pc + 3) ls (.long (if y < x then y else x) :: st) n h mc ms Q) : zGo K l d M pc ls (.long y :: .long x :: st) n h mc ms Q := by
  intro p e R s m args below meth c A n0 ad0 ad H locs cells slots MC MS lsA C D
  have k2 := kk p e R s m args below meth c A n0 ad0 ad H locs cells slots MC MS lsA C D
  have e1 : ((st.map (z_v K ad)).map fun v => v.category) = st.map fun v => v.category := by
    rw [List.map_map]; exact List.map_congr_left (fun v _ => z_v_cat K ad v)
  obtain ⟨C1, C2, C3, C4, C5, C6, C7, C8, C9, C10, C11, C12, C13, C14⟩ := C
  obtain ⟨D1, D2, D3, D4, D5, D6, D7, D8, D9⟩ := D
  exact va_mmin_long C1 C2 (by rw [C4]; exact D9.1.symm) C5 (C7 _ hm) (C7 _ wr_mminL) (C7 _ wi_J9) (C7 _ wq_mminL) (by omega) (by rw [e1]; omega) (by omega) (by omega) hd k2
