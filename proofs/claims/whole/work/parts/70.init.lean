/-! CONSTRUCTORS: the cells behind an object -/
theorem zLt.mono {n m : Nat} {v : Value} (h : zLt n v) (hm : n ≤ m) : zLt m v := by
  cases v with
  | ref a => exact h.imp (fun q => Nat.lt_of_lt_of_le q hm) id
  | _ => trivial
theorem zLe.mono {n m : Nat} {e : va_E} (h : zLe n e) (hm : n ≤ m) : zLe m e := by
  rcases e with ⟨t, N, f | f | f | f | f⟩ | ⟨c, fs⟩
  · trivial
  · trivial
  · trivial
  · trivial
  · intro j a hj
    exact (h j a hj).imp (fun q => Nat.lt_of_lt_of_le q hm) id
  · intro v hv
    exact zLt.mono (h v hv) hm
def zBl (b ci : Nat) (fs : List Value) (ar : List va_E) (h0 h : zH) : Prop := h b = .inr (ci, fs) ∧ (∀ i e, ar[i]? = some e → h (b + 1 + i) = e) ∧ (∀ q, (q < b ∨ b + 1 + ar.length ≤ q) → h q = h0 q) ∧ zWfh (b + 1 + ar.length) h
theorem zBl.nil {b ci : Nat} {fs : List Value} {h : zH} (h1 : h b = .inr (ci, fs)) (hw : zWfh (b + 1) h) : zBl b ci fs [] h h :=
  ⟨h1, fun i e hi => by simp at hi, fun _ _ => rfl, hw⟩
section
variable {b ci k i ci' : Nat} {fs fs' : List Value} {ar ar' : List va_E} {h0 h h' : zH} {e e' : va_E} {v : Value}
theorem zBl.push (hB : zBl b ci fs ar h0 h) (he : zLe (b + 1 + ar.length + 1) e) : zBl b ci fs (ar ++ [e]) h0 (z_up h (b + 1 + ar.length) e) := by
  obtain ⟨h1, h2, h3, h4⟩ := hB
  refine ⟨(z_up_ne (by omega)).trans h1, fun i e' hi => ?_, fun q hq => by rw [List.length_append] at hq; exact (z_up_ne (by have hq : q < b ∨ b + 1 + (ar.length + 1) ≤ q := hq; omega)).trans (h3 q (by have hq : q < b ∨ b + 1 + (ar.length + 1) ≤ q := hq; omega)), fun k hk => ?_⟩
  · by_cases q : i < ar.length
    · rw [List.getElem?_append_left q] at hi
      exact (z_up_ne (by omega)).trans (h2 i e' hi)
    · rw [List.getElem?_append_right (by omega)] at hi
      have q2 : i - ar.length = 0 := by
        by_cases q3 : i - ar.length = 0
        · exact q3
        · rw [List.getElem?_eq_none (by simp; omega)] at hi
          exact absurd hi (by simp)
      rw [q2] at hi
      have q4 : i = ar.length := by omega
      subst q4
      simp only [List.getElem?_cons_zero, Option.some.injEq] at hi
      rw [← hi]; exact z_up_self _ _ _
  · rw [List.length_append] at hk ⊢
    have hk : k < b + 1 + (ar.length + 1) := hk
    by_cases q : k = b + 1 + ar.length
    · subst q
      rw [z_up_self]; exact he
    · rw [z_up_ne q]
      exact (h4 k (by omega)).mono (by show _ ≤ b + 1 + (ar.length + 1); omega)
theorem zBl.setf (hB : zBl b ci fs ar h0 h) (hv : zLt (b + 1 + ar.length) v) : zBl b ci (fs.set k v) ar h0 (z_up h b (.inr (ci, fs.set k v))) := by
  obtain ⟨h1, h2, h3, h4⟩ := hB
  refine ⟨z_up_self _ _ _, fun i e' hi => (z_up_ne (by omega)).trans (h2 i e' hi), fun q hq => (z_up_ne (by omega)).trans (h3 q hq), fun j hj => ?_⟩
  by_cases q : j = b
  · subst q
    rw [z_up_self]
    intro w hw
    have h5 := h4 j hj
    rw [h1] at h5
    rcases List.mem_or_eq_of_mem_set hw with h | rfl
    · exact h5 w h
    · exact hv
  · rw [z_up_ne q]; exact h4 j hj
theorem zBl.cell (hB : zBl b ci fs ar h0 h) (hi : i < ar.length) (he : zLe (b + 1 + ar.length) e) : zBl b ci fs (ar.set i e) h0 (z_up h (b + 1 + i) e) := by
  obtain ⟨h1, h2, h3, h4⟩ := hB
  refine ⟨(z_up_ne (by omega)).trans h1, fun j e' hj => ?_, fun q hq => by rw [List.length_set] at hq; exact (z_up_ne (by omega)).trans (h3 q hq), fun j hj => ?_⟩
  · by_cases q : j = i
    · subst q
      rw [List.getElem?_set_self hi] at hj
      cases hj; exact z_up_self _ _ _
    · rw [List.getElem?_set_ne (fun z => q z.symm)] at hj
      exact (z_up_ne (by omega)).trans (h2 j e' hj)
  · rw [List.length_set] at hj ⊢
    by_cases q : j = b + 1 + i
    · subst q
      rw [z_up_self]; exact he
    · rw [z_up_ne q]; exact h4 j hj
theorem zBl.sub (hB : zBl b ci fs (ar ++ [e]) h0 h) (hB2 : zBl (b + 1 + ar.length) ci' fs' ar' h h') : zBl b ci fs (ar ++ [.inr (ci', fs')] ++ ar') h0 h' := by
  obtain ⟨h1, h2, h3, h4⟩ := hB
  obtain ⟨g1, g2, g3, g4⟩ := hB2
  have e1 : b + 1 + (ar ++ [Sum.inr (ci', fs')] ++ ar').length = b + 1 + ar.length + 1 + ar'.length := by
    simp only [List.length_append, List.length_cons, List.length_nil]; omega
  have e2 : b + 1 + (ar ++ [e]).length = b + 1 + ar.length + 1 := by simp only [List.length_append, List.length_cons, List.length_nil]; omega
  refine ⟨(g3 _ (by omega)).trans h1, fun i e' hi => ?_, fun q hq => by rw [e1] at hq; exact (g3 q (by omega)).trans (h3 q (by rw [e2]; omega)), ?_⟩
  · by_cases q : i < ar.length
    · rw [List.append_assoc, List.getElem?_append_left q] at hi
      exact (g3 _ (by omega)).trans (h2 i e' (by rw [List.getElem?_append_left q]; exact hi))
    · by_cases q1 : i = ar.length
      · subst q1
        rw [List.append_assoc, List.getElem?_append_right (by omega), Nat.sub_self] at hi
        simp only [List.singleton_append, List.getElem?_cons_zero, Option.some.injEq] at hi
        rw [← hi]; exact g1
      · rw [List.getElem?_append_right (by simp; omega)] at hi
        have := g2 _ _ hi
        simp only [List.length_append, List.length_cons, List.length_nil] at this
        have e1 : b + 1 + i = b + 1 + ar.length + 1 + (i - (ar.length + (0 + 1))) := by omega
        rw [e1]; exact this
  · rw [e1]; exact g4
end
theorem zb_newB {K : zK} {l : Launch} {d : Nat} {M : zM} {p : Nat} {i : Instr} {bs : List (Nat × Instr)} {fin len : Nat} {ls : List (Nat × Value)} {st st' : List Value} {h0 h : zH} {mc ms mc' ms' b ci : Nat} {fs : List Value} {ar : List va_E} {e : va_E} {Q : zQ} (hB : zBl b ci fs ar h0 h) (he : zLe (b + 1 + ar.length + 1) e) (g : decode M.2.1 p = .ok (i, len) → zGo K l d M (p + len) ls st' (b + 1 + ar.length + 1) (z_up h (b + 1 + ar.length) e) mc' ms' Q → zGo K l d M p ls st (b + 1 + ar.length) h mc ms Q) (hlen : zhd bs fin = p + len) (k : ∀ h', zBl b ci fs (ar ++ [e]) h0 h' → zGb K l d M bs fin ls st' (b + 1 + (ar ++ [e]).length) h' mc' ms' Q) : zGb K l d M ((p, i) :: bs) fin ls st (b + 1 + ar.length) h mc ms Q := by
  refine zb_go g hlen ?_
  have e1 : b + 1 + (ar ++ [e]).length = b + 1 + ar.length + 1 := by simp only [List.length_append, List.length_cons, List.length_nil]; omega
  have k2 := k _ (hB.push he)
  rw [e1] at k2
  exact k2
theorem zb_setB {K : zK} {l : Launch} {d : Nat} {M : zM} {p : Nat} {i : Instr} {bs : List (Nat × Instr)} {fin len : Nat} {ls : List (Nat × Value)} {st st' : List Value} {h0 h : zH} {mc ms b ci k : Nat} {fs : List Value} {v : Value} {ar : List va_E} {Q : zQ} (hB : zBl b ci fs ar h0 h) (hv : zLt (b + 1 + ar.length) v) (g : decode M.2.1 p = .ok (i, len) → zGo K l d M (p + len) ls st' (b + 1 + ar.length) (z_up h b (.inr (ci, fs.set k v))) mc ms Q → zGo K l d M p ls st (b + 1 + ar.length) h mc ms Q) (hlen : zhd bs fin = p + len) (kk : ∀ h', zBl b ci (fs.set k v) ar h0 h' → zGb K l d M bs fin ls st' (b + 1 + ar.length) h' mc ms Q) : zGb K l d M ((p, i) :: bs) fin ls st (b + 1 + ar.length) h mc ms Q :=
  zb_go g hlen (kk _ (hB.setf hv))
theorem zWf_nil {n : Nat} : zWf n [] [] := ⟨fun q hq => absurd hq (List.not_mem_nil), fun q hq => absurd hq (List.not_mem_nil)⟩
theorem zWf_l {n i : Nat} {v : Value} {ls : List (Nat × Value)} {st : List Value} (hv : zLt n v) (hw : zWf n ls st) : zWf n ((i, v) :: ls) st :=
  ⟨fun q hq => (List.mem_cons.mp hq).elim (fun e => by rw [e]; exact hv) (hw.1 q), hw.2⟩
theorem zWf_s {n : Nat} {v : Value} {ls : List (Nat × Value)} {st : List Value} (hv : zLt n v) (hw : zWf n ls st) : zWf n ls (v :: st) :=
  ⟨hw.1, fun q hq => (List.mem_cons.mp hq).elim (fun e => by rw [e]; exact hv) (hw.2 q)⟩
theorem zWf_b {n b : Nat} (h : b < n) : zWf n [(0, .ref b)] [.ref b] := zWf_l (Or.inl h) (zWf_s (Or.inl h) zWf_nil)
theorem zLt_last {b : Nat} {ar : List va_E} {e : va_E} : zLt (b + 1 + (ar ++ [e]).length) (.ref (b + 1 + ar.length)) := Or.inl (by simp)
theorem zLt_mid {b : Nat} {ar ar' : List va_E} {e : va_E} : zLt (b + 1 + (ar ++ [e] ++ ar').length) (.ref (b + 1 + ar.length)) := Or.inl (show b + 1 + ar.length < b + 1 + (ar ++ [e] ++ ar').length by rw [List.length_append, List.length_append]; show _ < b + 1 + (ar.length + 1 + ar'.length); omega)
theorem z_acI : Cond.arrayClass .int ∈ z_all := z_in (List.mem_of_getElem? (i := 109) (by decide +kernel)) (by decide +kernel)
theorem z_acB : Cond.arrayClass .byte ∈ z_all := z_in (List.mem_of_getElem? (i := 108) (by decide +kernel)) (by decide +kernel)
theorem z_acZ : Cond.arrayClass .boolean ∈ z_all := z_in (List.mem_of_getElem? (i := 110) (by decide +kernel)) (by decide +kernel)
theorem z_acL : Cond.arrayClass .long ∈ z_all := z_in (List.mem_of_getElem? (i := 259) (by decide +kernel)) (by decide +kernel)
section
variable {K : zK} {l : Launch} {d : Nat} {M : zM} {pc : Nat} {ls : List (Nat × Value)} {st : List Value} {n : Nat} {h : zH} {mc ms : Nat} {Q : zQ} {N : Nat} {i : Int32}
theorem zg_newI (hi : ¬ i < 0) (hiN : i.toNatClampNeg = N) (hb : N * 4 ≤ 536870912) (hn : n < 1000) (hw : zWfh n h) (hls : zWf n ls st) (hmc : 1 ≤ mc) (hms : N ≤ ms) (hd : decode M.2.1 pc = .ok (.newarray .int, 2)) (kk : zGo K l d M (pc + 2) ls (.ref n :: st) (n + 1) (z_up h n (.inl (0, N, .inl (fun _ => 0)))) (mc - 1) (ms - N) Q) : zGo K l d M pc ls (.int i :: st) n h mc ms Q :=
  zg_newarray (t := 0) (a0 := (N, .inl (fun _ => 0))) (ty := .int) (atype := .int) rfl z_acI (fun _ => rfl) (fun _ => rfl) (fun _ _ => rfl) hi hiN hb hn hw hls hmc hms hd kk
theorem zg_newB (hi : ¬ i < 0) (hiN : i.toNatClampNeg = N) (hb : N * 1 ≤ 536870912) (hn : n < 1000) (hw : zWfh n h) (hls : zWf n ls st) (hmc : 1 ≤ mc) (hms : N ≤ ms) (hd : decode M.2.1 pc = .ok (.newarray .byte, 2)) (kk : zGo K l d M (pc + 2) ls (.ref n :: st) (n + 1) (z_up h n (.inl (1, N, .inl (fun _ => 0)))) (mc - 1) (ms - N) Q) : zGo K l d M pc ls (.int i :: st) n h mc ms Q :=
  zg_newarray (t := 1) (a0 := (N, .inl (fun _ => 0))) (ty := .byte) (atype := .byte) rfl z_acB (fun _ => rfl) (fun _ => rfl) (fun _ _ => rfl) hi hiN hb hn hw hls hmc hms hd kk
theorem zg_newZ (hi : ¬ i < 0) (hiN : i.toNatClampNeg = N) (hb : N * 1 ≤ 536870912) (hn : n < 1000) (hw : zWfh n h) (hls : zWf n ls st) (hmc : 1 ≤ mc) (hms : N ≤ ms) (hd : decode M.2.1 pc = .ok (.newarray .boolean, 2)) (kk : zGo K l d M (pc + 2) ls (.ref n :: st) (n + 1) (z_up h n (.inl (3, N, .inl (fun _ => 0)))) (mc - 1) (ms - N) Q) : zGo K l d M pc ls (.int i :: st) n h mc ms Q :=
  zg_newarray (t := 3) (a0 := (N, .inl (fun _ => 0))) (ty := .boolean) (atype := .boolean) rfl z_acZ (fun _ => rfl) (fun _ => rfl) (fun _ _ => rfl) hi hiN hb hn hw hls hmc hms hd kk
theorem zg_newL (hi : ¬ i < 0) (hiN : i.toNatClampNeg = N) (hb : N * 8 ≤ 536870912) (hn : n < 1000) (hw : zWfh n h) (hls : zWf n ls st) (hmc : 1 ≤ mc) (hms : N ≤ ms) (hd : decode M.2.1 pc = .ok (.newarray .long, 2)) (kk : zGo K l d M (pc + 2) ls (.ref n :: st) (n + 1) (z_up h n (.inl (2, N, .inr (.inl (fun _ => 0))))) (mc - 1) (ms - N) Q) : zGo K l d M pc ls (.int i :: st) n h mc ms Q :=
  zg_newarray (t := 2) (a0 := (N, .inr (.inl (fun _ => 0)))) (ty := .long) (atype := .long) rfl z_acL (fun _ => rfl) (fun _ => rfl) (fun _ _ => rfl) hi hiN hb hn hw hls hmc hms hd kk
end

theorem zb_cellB {K : zK} {l : Launch} {d : Nat} {M : zM} {p j : Nat} {i : Instr} {bs : List (Nat × Instr)} {fin len : Nat} {ls : List (Nat × Value)} {st st' : List Value} {h0 h : zH} {mc ms b ci : Nat} {fs : List Value} {e : va_E} {ar : List va_E} {Q : zQ} (hB : zBl b ci fs ar h0 h) (hi : j < ar.length) (he : zLe (b + 1 + ar.length) e) (g : decode M.2.1 p = .ok (i, len) → zGo K l d M (p + len) ls st' (b + 1 + ar.length) (z_up h (b + 1 + j) e) mc ms Q → zGo K l d M p ls st (b + 1 + ar.length) h mc ms Q) (hlen : zhd bs fin = p + len) (kk : ∀ h', zBl b ci fs (ar.set j e) h0 h' → zGb K l d M bs fin ls st' (b + 1 + (ar.set j e).length) h' mc ms Q) : zGb K l d M ((p, i) :: bs) fin ls st (b + 1 + ar.length) h mc ms Q := by
  have k2 := kk _ (hB.cell hi he)
  rw [List.length_set] at k2
  exact zb_go g hlen k2
theorem zb_calli {K : zK} {l : Launch} {d : Nat} {M : zM} {p idx fin : Nat} {bs : List (Nat × Instr)} {ls : List (Nat × Value)} {st : List Value} {n : Nat} {h : zH} {mc ms : Nat} {Q : zQ} {d' mc' ms' x : Nat} {M' : zM} {rest : List Value} {P : Nat → zH → Prop} (hr : zRuns K l d' M' [.ref x] n h mc' ms' (fun v n' h' => v = none ∧ P n' h')) (hm : zMl 2 M.1.cls idx M' 0) (hst : st = .ref x :: rest) (hd' : d' + 1 ≤ d) (hrest : (rest.map fun v => v.category).sum ≤ 8) (hb1 : mc' ≤ mc) (hb2 : ms' ≤ ms) (hls : zWf n ls rest) (hlen : zhd bs fin = p + 3) (k : ∀ n' h', P n' h' → zGb K l d M bs fin ls rest n' h' (mc - mc') (ms - ms') Q) : zGb K l d M ((p, .invokespecial idx) :: bs) fin ls st n h mc ms Q := by
  intro ok
  obtain ⟨o1, o2⟩ := zb_ok ok hlen
  refine zg_calli (av := []) hr hm hst rfl hd' hrest hb1 hb2 o1 (fun v1 n1 h1 q => ?_)
  obtain ⟨rfl, q⟩ := q
  have k2 := k n1 h1 q o2
  rw [hlen] at k2
  exact ⟨Or.inr hls, k2⟩
theorem zLd {fs : List Value} (h : fs.all (fun v => match v with | .ref _ => false | _ => true) = true) {n c : Nat} : zLe n (.inr (c, fs)) := by
  intro v hv
  have := List.all_eq_true.mp h v hv
  cases v with
  | ref a => exact absurd (show false = true from this) (by decide)
  | _ => trivial

theorem woX1 : Cond.methodLink RX1 5 objectInit ∈ z_all := z_in (List.mem_of_getElem? (i := 204) (by decide +kernel)) (by decide +kernel)
theorem woX2 : Cond.methodLink RX2 3 objectInit ∈ z_all := z_in (List.mem_of_getElem? (i := 116) (by decide +kernel)) (by decide +kernel)
theorem woX3 : Cond.methodLink RX3 3 objectInit ∈ z_all := z_in (List.mem_of_getElem? (i := 177) (by decide +kernel)) (by decide +kernel)
theorem woX4 : Cond.methodLink RX4 5 objectInit ∈ z_all := z_in (List.mem_of_getElem? (i := 87) (by decide +kernel)) (by decide +kernel)
theorem woX5 : Cond.methodLink RX5 1 objectInit ∈ z_all := z_in (List.mem_of_getElem? (i := 79) (by decide +kernel)) (by decide +kernel)
theorem woX6 : Cond.methodLink RX6 1 objectInit ∈ z_all := z_in (List.mem_of_getElem? (i := 797) (by decide +kernel)) (by decide +kernel)
theorem wnX4 : zNw RX5 7 3 [.int 0, .null, .int 0, .int 0, .null, .null] 6 := ⟨(RX4, TX4, 6), rfl, rfl, z_in (List.mem_of_getElem? (i := 82) (by decide +kernel)) (by decide +kernel), z_in (List.mem_of_getElem? (i := 83) (by decide +kernel)) (by decide +kernel), wi_X4, (fun j hj => match j, hj with | 0, _ => rfl | 1, _ => rfl | 2, _ => rfl | 3, _ => rfl | 4, _ => rfl | 5, _ => rfl | _ + 6, hj => absurd hj (by show ¬ _ + 6 < 6; omega)), fun K ad => rfl⟩
theorem wnX2 : zNw RX5 16 1 [.int 0, .int 0, .int 0, .int 0, .int 0, .null, .null, .null, .null, .null] 10 := ⟨(RX2, TX2, 10), rfl, rfl, z_in (List.mem_of_getElem? (i := 111) (by decide +kernel)) (by decide +kernel), z_in (List.mem_of_getElem? (i := 112) (by decide +kernel)) (by decide +kernel), wi_X2, (fun j hj => match j, hj with | 0, _ => rfl | 1, _ => rfl | 2, _ => rfl | 3, _ => rfl | 4, _ => rfl | 5, _ => rfl | 6, _ => rfl | 7, _ => rfl | 8, _ => rfl | 9, _ => rfl | _ + 10, hj => absurd hj (by show ¬ _ + 10 < 10; omega)), fun K ad => rfl⟩
theorem wnX3 : zNw RX5 26 2 [.int 0, .int 0, .null, .null] 4 := ⟨(RX3, TX3, 4), rfl, rfl, z_in (List.mem_of_getElem? (i := 172) (by decide +kernel)) (by decide +kernel), z_in (List.mem_of_getElem? (i := 173) (by decide +kernel)) (by decide +kernel), wi_X3, (fun j hj => match j, hj with | 0, _ => rfl | 1, _ => rfl | 2, _ => rfl | 3, _ => rfl | _ + 4, hj => absurd hj (by show ¬ _ + 4 < 4; omega)), fun K ad => rfl⟩
theorem wnX1 : zNw RX5 41 0 [.int 0, .int 0, .int 0, .int 0, .long 0, .int 0, .int 0, .int 0, .null, .null, .null, .null, .int 0, .int 0, .long 0, .long 0, .null] 17 := ⟨(RX1, TX1, 17), rfl, rfl, z_in (List.mem_of_getElem? (i := 199) (by decide +kernel)) (by decide +kernel), z_in (List.mem_of_getElem? (i := 200) (by decide +kernel)) (by decide +kernel), wi_X1, (fun j hj => match j, hj with | 0, _ => rfl | 1, _ => rfl | 2, _ => rfl | 3, _ => rfl | 4, _ => rfl | 5, _ => rfl | 6, _ => rfl | 7, _ => rfl | 8, _ => rfl | 9, _ => rfl | 10, _ => rfl | 11, _ => rfl | 12, _ => rfl | 13, _ => rfl | 14, _ => rfl | 15, _ => rfl | 16, _ => rfl | _ + 17, hj => absurd hj (by show ¬ _ + 17 < 17; omega)), fun K ad => rfl⟩
section
variable {K : zK} {l : Launch} {b : Nat} {h : zH}
theorem r_X4_init (hb : b < 900) (hc : h b = .inr (3, [.int 0, .null, .int 0, .int 0, .null, .null])) (hw : zWfh (b + 1) h) : zRuns K l 1 mX4_init [.ref b] (b + 1) h 3 209 (fun v n' h' => v = none ∧ n' = b + 1 + 3 ∧ zBl b 3 [.int 0, .ref (b + 1), .int 0, .int (-1), .ref (b + 2), .ref (b + 3)] [.inl (1, 200, .inl (fun _ => 0)), .inl (0, 4, .inl (fun _ => 0)), .inl (3, 5, .inl (fun _ => 0))] h h') := by
  refine zRuns.of (by decide) (Nat.le_of_ble_eq_true rfl) ?_
  have hB := zBl.nil hc hw
  show zGo K l 1 mX4_init 0 [(0, .ref b)] [] (b + 1 + ([] : List va_E).length) h _ _ _
  have hb0 : ∀ ar : List va_E, ar.length < 90 → b + 1 + ar.length < 1000 := fun ar h => by omega
  refine kX4_init_0 ?_
  refine zb_go (zg_aload_n rfl) rfl ?_
  refine zb_go (zg_objInit woX4 z_oI2 z_oI3 (by decide) (Nat.le_of_ble_eq_true rfl)) rfl ?_
  refine zb_go (zg_aload_n rfl) rfl ?_
  refine zb_go (zg_iconst 0 (by decide)) rfl ?_
  refine zb_setB hB (by first | exact trivial | exact zLt_last | exact zLt_mid | exact Or.inl (by omega) | exact Or.inl (Nat.le_of_ble_eq_true rfl)) (zg_putfield fX4_11 (by first | omega | exact Nat.le_of_ble_eq_true rfl) hB.1 (by exact Nat.le_of_ble_eq_true rfl) (by rfl) (by rfl) (by first | exact Or.inl rfl | exact Or.inr ⟨rfl, by rfl⟩)) rfl (fun h hB => ?_)
  refine zb_go (zg_aload_n rfl) rfl ?_
  refine zb_go (zg_sipush 200 (by decide)) rfl ?_
  refine zb_newB hB (by exact trivial) (zg_newB (N := 200) (by decide) (by decide) (by decide) (hb0 _ (Nat.le_of_ble_eq_true rfl)) hB.2.2.2 (zWf_b (by omega)) (Nat.le_of_ble_eq_true rfl) (Nat.le_of_ble_eq_true rfl)) rfl (fun h hB => ?_)
  refine zb_setB hB (by first | exact trivial | exact zLt_last | exact zLt_mid | exact Or.inl (by omega) | exact Or.inl (Nat.le_of_ble_eq_true rfl)) (zg_putfield fX4_15 (by first | omega | exact Nat.le_of_ble_eq_true rfl) hB.1 (by exact Nat.le_of_ble_eq_true rfl) (by rfl) (by rfl) (by first | exact Or.inl rfl | exact Or.inr ⟨rfl, by rfl⟩)) rfl (fun h hB => ?_)
  refine zb_go (zg_aload_n rfl) rfl ?_
  refine zb_go (zg_iconst 0 (by decide)) rfl ?_
  refine zb_setB hB (by first | exact trivial | exact zLt_last | exact zLt_mid | exact Or.inl (by omega) | exact Or.inl (Nat.le_of_ble_eq_true rfl)) (zg_putfield fX4_19 (by first | omega | exact Nat.le_of_ble_eq_true rfl) hB.1 (by exact Nat.le_of_ble_eq_true rfl) (by rfl) (by rfl) (by first | exact Or.inl rfl | exact Or.inr ⟨rfl, by rfl⟩)) rfl (fun h hB => ?_)
  refine zb_go (zg_aload_n rfl) rfl ?_
  refine zb_go (zg_iconst (-1) (by decide)) rfl ?_
  refine zb_setB hB (by first | exact trivial | exact zLt_last | exact zLt_mid | exact Or.inl (by omega) | exact Or.inl (Nat.le_of_ble_eq_true rfl)) (zg_putfield fX4_22 (by first | omega | exact Nat.le_of_ble_eq_true rfl) hB.1 (by exact Nat.le_of_ble_eq_true rfl) (by rfl) (by rfl) (by first | exact Or.inl rfl | exact Or.inr ⟨rfl, by rfl⟩)) rfl (fun h hB => ?_)
  refine zb_go (zg_aload_n rfl) rfl ?_
  refine zb_go (zg_iconst 4 (by decide)) rfl ?_
  refine zb_newB hB (by exact trivial) (zg_newI (N := 4) (by decide) (by decide) (by decide) (hb0 _ (Nat.le_of_ble_eq_true rfl)) hB.2.2.2 (zWf_b (by omega)) (Nat.le_of_ble_eq_true rfl) (Nat.le_of_ble_eq_true rfl)) rfl (fun h hB => ?_)
  refine zb_setB hB (by first | exact trivial | exact zLt_last | exact zLt_mid | exact Or.inl (by omega) | exact Or.inl (Nat.le_of_ble_eq_true rfl)) (zg_putfield fX4_25 (by first | omega | exact Nat.le_of_ble_eq_true rfl) hB.1 (by exact Nat.le_of_ble_eq_true rfl) (by rfl) (by rfl) (by first | exact Or.inl rfl | exact Or.inr ⟨rfl, by rfl⟩)) rfl (fun h hB => ?_)
  refine zb_go (zg_aload_n rfl) rfl ?_
  refine zb_go (zg_iconst 5 (by decide)) rfl ?_
  refine zb_newB hB (by exact trivial) (zg_newZ (N := 5) (by decide) (by decide) (by decide) (hb0 _ (Nat.le_of_ble_eq_true rfl)) hB.2.2.2 (zWf_b (by omega)) (Nat.le_of_ble_eq_true rfl) (Nat.le_of_ble_eq_true rfl)) rfl (fun h hB => ?_)
  refine zb_setB hB (by first | exact trivial | exact zLt_last | exact zLt_mid | exact Or.inl (by omega) | exact Or.inl (Nat.le_of_ble_eq_true rfl)) (zg_putfield fX4_29 (by first | omega | exact Nat.le_of_ble_eq_true rfl) hB.1 (by exact Nat.le_of_ble_eq_true rfl) (by rfl) (by rfl) (by first | exact Or.inl rfl | exact Or.inr ⟨rfl, by rfl⟩)) rfl (fun h hB => ?_)
  refine zb_end (zg_return rfl ?_) rfl
  exact ⟨rfl, rfl, hB⟩
theorem r_X2_init (hb : b < 900) (hc : h b = .inr (1, [.int 0, .int 0, .int 0, .int 0, .int 0, .null, .null, .null, .null, .null])) (hw : zWfh (b + 1) h) : zRuns K l 1 mX2_init [.ref b] (b + 1) h 5 28 (fun v n' h' => v = none ∧ n' = b + 1 + 5 ∧ zBl b 1 [.int 0, .int 0, .int 0, .int 1, .int 0, .ref (b + 1), .ref (b + 2), .ref (b + 3), .ref (b + 4), .ref (b + 5)] [.inl (0, 4, .inl (fun _ => 0)), .inl (0, 6, .inl (fun _ => 0)), .inl (0, 6, .inl (fun _ => 0)), .inl (0, 6, .inl (fun _ => 0)), .inl (0, 6, .inl (fun _ => 0))] h h') := by
  refine zRuns.of (by decide) (Nat.le_of_ble_eq_true rfl) ?_
  have hB := zBl.nil hc hw
  show zGo K l 1 mX2_init 0 [(0, .ref b)] [] (b + 1 + ([] : List va_E).length) h _ _ _
  have hb0 : ∀ ar : List va_E, ar.length < 90 → b + 1 + ar.length < 1000 := fun ar h => by omega
  refine kX2_init_0 ?_
  refine zb_go (zg_aload_n rfl) rfl ?_
  refine zb_go (zg_objInit woX2 z_oI2 z_oI3 (by decide) (Nat.le_of_ble_eq_true rfl)) rfl ?_
  refine zb_go (zg_aload_n rfl) rfl ?_
  refine zb_go (zg_iconst 0 (by decide)) rfl ?_
  refine zb_setB hB (by first | exact trivial | exact zLt_last | exact zLt_mid | exact Or.inl (by omega) | exact Or.inl (Nat.le_of_ble_eq_true rfl)) (zg_putfield fX2_9 (by first | omega | exact Nat.le_of_ble_eq_true rfl) hB.1 (by exact Nat.le_of_ble_eq_true rfl) (by rfl) (by rfl) (by first | exact Or.inl rfl | exact Or.inr ⟨rfl, by rfl⟩)) rfl (fun h hB => ?_)
  refine zb_go (zg_aload_n rfl) rfl ?_
  refine zb_go (zg_iconst 0 (by decide)) rfl ?_
  refine zb_setB hB (by first | exact trivial | exact zLt_last | exact zLt_mid | exact Or.inl (by omega) | exact Or.inl (Nat.le_of_ble_eq_true rfl)) (zg_putfield fX2_15 (by first | omega | exact Nat.le_of_ble_eq_true rfl) hB.1 (by exact Nat.le_of_ble_eq_true rfl) (by rfl) (by rfl) (by first | exact Or.inl rfl | exact Or.inr ⟨rfl, by rfl⟩)) rfl (fun h hB => ?_)
  refine zb_go (zg_aload_n rfl) rfl ?_
  refine zb_go (zg_iconst 0 (by decide)) rfl ?_
  refine zb_setB hB (by first | exact trivial | exact zLt_last | exact zLt_mid | exact Or.inl (by omega) | exact Or.inl (Nat.le_of_ble_eq_true rfl)) (zg_putfield fX2_18 (by first | omega | exact Nat.le_of_ble_eq_true rfl) hB.1 (by exact Nat.le_of_ble_eq_true rfl) (by rfl) (by rfl) (by first | exact Or.inl rfl | exact Or.inr ⟨rfl, by rfl⟩)) rfl (fun h hB => ?_)
  refine zb_go (zg_aload_n rfl) rfl ?_
  refine zb_go (zg_iconst 1 (by decide)) rfl ?_
  refine zb_setB hB (by first | exact trivial | exact zLt_last | exact zLt_mid | exact Or.inl (by omega) | exact Or.inl (Nat.le_of_ble_eq_true rfl)) (zg_putfield fX2_21 (by first | omega | exact Nat.le_of_ble_eq_true rfl) hB.1 (by exact Nat.le_of_ble_eq_true rfl) (by rfl) (by rfl) (by first | exact Or.inl rfl | exact Or.inr ⟨rfl, by rfl⟩)) rfl (fun h hB => ?_)
  refine zb_go (zg_aload_n rfl) rfl ?_
  refine zb_go (zg_iconst 0 (by decide)) rfl ?_
  refine zb_setB hB (by first | exact trivial | exact zLt_last | exact zLt_mid | exact Or.inl (by omega) | exact Or.inl (Nat.le_of_ble_eq_true rfl)) (zg_putfield fX2_24 (by first | omega | exact Nat.le_of_ble_eq_true rfl) hB.1 (by exact Nat.le_of_ble_eq_true rfl) (by rfl) (by rfl) (by first | exact Or.inl rfl | exact Or.inr ⟨rfl, by rfl⟩)) rfl (fun h hB => ?_)
  refine zb_go (zg_aload_n rfl) rfl ?_
  refine zb_go (zg_iconst 4 (by decide)) rfl ?_
  refine zb_newB hB (by exact trivial) (zg_newI (N := 4) (by decide) (by decide) (by decide) (hb0 _ (Nat.le_of_ble_eq_true rfl)) hB.2.2.2 (zWf_b (by omega)) (Nat.le_of_ble_eq_true rfl) (Nat.le_of_ble_eq_true rfl)) rfl (fun h hB => ?_)
  refine zb_setB hB (by first | exact trivial | exact zLt_last | exact zLt_mid | exact Or.inl (by omega) | exact Or.inl (Nat.le_of_ble_eq_true rfl)) (zg_putfield fX2_27 (by first | omega | exact Nat.le_of_ble_eq_true rfl) hB.1 (by exact Nat.le_of_ble_eq_true rfl) (by rfl) (by rfl) (by first | exact Or.inl rfl | exact Or.inr ⟨rfl, by rfl⟩)) rfl (fun h hB => ?_)
  refine zb_go (zg_aload_n rfl) rfl ?_
  refine zb_go (zg_bipush 6 (by decide)) rfl ?_
  refine zb_newB hB (by exact trivial) (zg_newI (N := 6) (by decide) (by decide) (by decide) (hb0 _ (Nat.le_of_ble_eq_true rfl)) hB.2.2.2 (zWf_b (by omega)) (Nat.le_of_ble_eq_true rfl) (Nat.le_of_ble_eq_true rfl)) rfl (fun h hB => ?_)
  refine zb_setB hB (by first | exact trivial | exact zLt_last | exact zLt_mid | exact Or.inl (by omega) | exact Or.inl (Nat.le_of_ble_eq_true rfl)) (zg_putfield fX2_31 (by first | omega | exact Nat.le_of_ble_eq_true rfl) hB.1 (by exact Nat.le_of_ble_eq_true rfl) (by rfl) (by rfl) (by first | exact Or.inl rfl | exact Or.inr ⟨rfl, by rfl⟩)) rfl (fun h hB => ?_)
  refine zb_go (zg_aload_n rfl) rfl ?_
  refine zb_go (zg_bipush 6 (by decide)) rfl ?_
  refine zb_newB hB (by exact trivial) (zg_newI (N := 6) (by decide) (by decide) (by decide) (hb0 _ (Nat.le_of_ble_eq_true rfl)) hB.2.2.2 (zWf_b (by omega)) (Nat.le_of_ble_eq_true rfl) (Nat.le_of_ble_eq_true rfl)) rfl (fun h hB => ?_)
  refine zb_setB hB (by first | exact trivial | exact zLt_last | exact zLt_mid | exact Or.inl (by omega) | exact Or.inl (Nat.le_of_ble_eq_true rfl)) (zg_putfield fX2_34 (by first | omega | exact Nat.le_of_ble_eq_true rfl) hB.1 (by exact Nat.le_of_ble_eq_true rfl) (by rfl) (by rfl) (by first | exact Or.inl rfl | exact Or.inr ⟨rfl, by rfl⟩)) rfl (fun h hB => ?_)
  refine zb_go (zg_aload_n rfl) rfl ?_
  refine zb_go (zg_bipush 6 (by decide)) rfl ?_
  refine zb_newB hB (by exact trivial) (zg_newI (N := 6) (by decide) (by decide) (by decide) (hb0 _ (Nat.le_of_ble_eq_true rfl)) hB.2.2.2 (zWf_b (by omega)) (Nat.le_of_ble_eq_true rfl) (Nat.le_of_ble_eq_true rfl)) rfl (fun h hB => ?_)
  refine zb_setB hB (by first | exact trivial | exact zLt_last | exact zLt_mid | exact Or.inl (by omega) | exact Or.inl (Nat.le_of_ble_eq_true rfl)) (zg_putfield fX2_37 (by first | omega | exact Nat.le_of_ble_eq_true rfl) hB.1 (by exact Nat.le_of_ble_eq_true rfl) (by rfl) (by rfl) (by first | exact Or.inl rfl | exact Or.inr ⟨rfl, by rfl⟩)) rfl (fun h hB => ?_)
  refine zb_go (zg_aload_n rfl) rfl ?_
  refine zb_go (zg_bipush 6 (by decide)) rfl ?_
  refine zb_newB hB (by exact trivial) (zg_newI (N := 6) (by decide) (by decide) (by decide) (hb0 _ (Nat.le_of_ble_eq_true rfl)) hB.2.2.2 (zWf_b (by omega)) (Nat.le_of_ble_eq_true rfl) (Nat.le_of_ble_eq_true rfl)) rfl (fun h hB => ?_)
  refine zb_setB hB (by first | exact trivial | exact zLt_last | exact zLt_mid | exact Or.inl (by omega) | exact Or.inl (Nat.le_of_ble_eq_true rfl)) (zg_putfield fX2_40 (by first | omega | exact Nat.le_of_ble_eq_true rfl) hB.1 (by exact Nat.le_of_ble_eq_true rfl) (by rfl) (by rfl) (by first | exact Or.inl rfl | exact Or.inr ⟨rfl, by rfl⟩)) rfl (fun h hB => ?_)
  refine zb_end (zg_return rfl ?_) rfl
  exact ⟨rfl, rfl, hB⟩
theorem r_X1_init (hb : b < 900) (hc : h b = .inr (0, [.int 0, .int 0, .int 0, .int 0, .long 0, .int 0, .int 0, .int 0, .null, .null, .null, .null, .int 0, .int 0, .long 0, .long 0, .null])) (hw : zWfh (b + 1) h) : zRuns K l 1 mX1_init [.ref b] (b + 1) h 5 776 (fun v n' h' => v = none ∧ n' = b + 1 + 5 ∧ ∃ x y, zBl b 0 [.int 0, .int 0, .int 1, .int 0, .long 0, .int (-1), .int (-1), .int (-1), .ref (b + 1), .ref (b + 2), .ref (b + 3), .ref (b + 4), .int 0, .int 0, .long x, .long y, .ref (b + 5)] [.inl (0, 256, .inl (fun _ => 0)), .inl (0, 4, .inl (fun _ => 0)), .inl (2, 256, .inr (.inl (fun _ => 0))), .inl (2, 256, .inr (.inl (fun _ => 0))), .inl (0, 4, .inl (fun _ => 0))] h h') := by
  refine zRuns.of (by decide) (Nat.le_of_ble_eq_true rfl) ?_
  have hB := zBl.nil hc hw
  show zGo K l 1 mX1_init 0 [(0, .ref b)] [] (b + 1 + ([] : List va_E).length) h _ _ _
  have hb0 : ∀ ar : List va_E, ar.length < 90 → b + 1 + ar.length < 1000 := fun ar h => by omega
  refine kX1_init_0 ?_
  refine zb_go (zg_aload_n rfl) rfl ?_
  refine zb_go (zg_objInit woX1 z_oI2 z_oI3 (by decide) (Nat.le_of_ble_eq_true rfl)) rfl ?_
  refine zb_go (zg_aload_n rfl) rfl ?_
  refine zb_go (zg_iconst 0 (by decide)) rfl ?_
  refine zb_setB hB (by first | exact trivial | exact zLt_last | exact zLt_mid | exact Or.inl (by omega) | exact Or.inl (Nat.le_of_ble_eq_true rfl)) (zg_putfield fX1_11 (by first | omega | exact Nat.le_of_ble_eq_true rfl) hB.1 (by exact Nat.le_of_ble_eq_true rfl) (by rfl) (by rfl) (by first | exact Or.inl rfl | exact Or.inr ⟨rfl, by rfl⟩)) rfl (fun h hB => ?_)
  refine zb_go (zg_aload_n rfl) rfl ?_
  refine zb_go (zg_iconst 0 (by decide)) rfl ?_
  refine zb_setB hB (by first | exact trivial | exact zLt_last | exact zLt_mid | exact Or.inl (by omega) | exact Or.inl (Nat.le_of_ble_eq_true rfl)) (zg_putfield fX1_15 (by first | omega | exact Nat.le_of_ble_eq_true rfl) hB.1 (by exact Nat.le_of_ble_eq_true rfl) (by rfl) (by rfl) (by first | exact Or.inl rfl | exact Or.inr ⟨rfl, by rfl⟩)) rfl (fun h hB => ?_)
  refine zb_go (zg_aload_n rfl) rfl ?_
  refine zb_go (zg_iconst 1 (by decide)) rfl ?_
  refine zb_setB hB (by first | exact trivial | exact zLt_last | exact zLt_mid | exact Or.inl (by omega) | exact Or.inl (Nat.le_of_ble_eq_true rfl)) (zg_putfield fX1_19 (by first | omega | exact Nat.le_of_ble_eq_true rfl) hB.1 (by exact Nat.le_of_ble_eq_true rfl) (by rfl) (by rfl) (by first | exact Or.inl rfl | exact Or.inr ⟨rfl, by rfl⟩)) rfl (fun h hB => ?_)
  refine zb_go (zg_aload_n rfl) rfl ?_
  refine zb_go (zg_iconst 0 (by decide)) rfl ?_
  refine zb_setB hB (by first | exact trivial | exact zLt_last | exact zLt_mid | exact Or.inl (by omega) | exact Or.inl (Nat.le_of_ble_eq_true rfl)) (zg_putfield fX1_22 (by first | omega | exact Nat.le_of_ble_eq_true rfl) hB.1 (by exact Nat.le_of_ble_eq_true rfl) (by rfl) (by rfl) (by first | exact Or.inl rfl | exact Or.inr ⟨rfl, by rfl⟩)) rfl (fun h hB => ?_)
  refine zb_go (zg_aload_n rfl) rfl ?_
  refine zb_go (zg_lconst 0 (by decide)) rfl ?_
  refine zb_setB hB (by first | exact trivial | exact zLt_last | exact zLt_mid | exact Or.inl (by omega) | exact Or.inl (Nat.le_of_ble_eq_true rfl)) (zg_putfield fX1_25 (by first | omega | exact Nat.le_of_ble_eq_true rfl) hB.1 (by exact Nat.le_of_ble_eq_true rfl) (by rfl) (by rfl) (by first | exact Or.inl rfl | exact Or.inr ⟨rfl, by rfl⟩)) rfl (fun h hB => ?_)
  refine zb_go (zg_aload_n rfl) rfl ?_
  refine zb_go (zg_iconst (-1) (by decide)) rfl ?_
  refine zb_setB hB (by first | exact trivial | exact zLt_last | exact zLt_mid | exact Or.inl (by omega) | exact Or.inl (Nat.le_of_ble_eq_true rfl)) (zg_putfield fX1_29 (by first | omega | exact Nat.le_of_ble_eq_true rfl) hB.1 (by exact Nat.le_of_ble_eq_true rfl) (by rfl) (by rfl) (by first | exact Or.inl rfl | exact Or.inr ⟨rfl, by rfl⟩)) rfl (fun h hB => ?_)
  refine zb_go (zg_aload_n rfl) rfl ?_
  refine zb_go (zg_iconst (-1) (by decide)) rfl ?_
  refine zb_setB hB (by first | exact trivial | exact zLt_last | exact zLt_mid | exact Or.inl (by omega) | exact Or.inl (Nat.le_of_ble_eq_true rfl)) (zg_putfield fX1_32 (by first | omega | exact Nat.le_of_ble_eq_true rfl) hB.1 (by exact Nat.le_of_ble_eq_true rfl) (by rfl) (by rfl) (by first | exact Or.inl rfl | exact Or.inr ⟨rfl, by rfl⟩)) rfl (fun h hB => ?_)
  refine zb_go (zg_aload_n rfl) rfl ?_
  refine zb_go (zg_iconst (-1) (by decide)) rfl ?_
  refine zb_setB hB (by first | exact trivial | exact zLt_last | exact zLt_mid | exact Or.inl (by omega) | exact Or.inl (Nat.le_of_ble_eq_true rfl)) (zg_putfield fX1_35 (by first | omega | exact Nat.le_of_ble_eq_true rfl) hB.1 (by exact Nat.le_of_ble_eq_true rfl) (by rfl) (by rfl) (by first | exact Or.inl rfl | exact Or.inr ⟨rfl, by rfl⟩)) rfl (fun h hB => ?_)
  refine zb_go (zg_aload_n rfl) rfl ?_
  refine zb_go (zg_sipush 256 (by decide)) rfl ?_
  refine zb_newB hB (by exact trivial) (zg_newI (N := 256) (by decide) (by decide) (by decide) (hb0 _ (Nat.le_of_ble_eq_true rfl)) hB.2.2.2 (zWf_b (by omega)) (Nat.le_of_ble_eq_true rfl) (Nat.le_of_ble_eq_true rfl)) rfl (fun h hB => ?_)
  refine zb_setB hB (by first | exact trivial | exact zLt_last | exact zLt_mid | exact Or.inl (by omega) | exact Or.inl (Nat.le_of_ble_eq_true rfl)) (zg_putfield fX1_38 (by first | omega | exact Nat.le_of_ble_eq_true rfl) hB.1 (by exact Nat.le_of_ble_eq_true rfl) (by rfl) (by rfl) (by first | exact Or.inl rfl | exact Or.inr ⟨rfl, by rfl⟩)) rfl (fun h hB => ?_)
  refine zb_go (zg_aload_n rfl) rfl ?_
  refine zb_go (zg_iconst 4 (by decide)) rfl ?_
  refine zb_newB hB (by exact trivial) (zg_newI (N := 4) (by decide) (by decide) (by decide) (hb0 _ (Nat.le_of_ble_eq_true rfl)) hB.2.2.2 (zWf_b (by omega)) (Nat.le_of_ble_eq_true rfl) (Nat.le_of_ble_eq_true rfl)) rfl (fun h hB => ?_)
  refine zb_setB hB (by first | exact trivial | exact zLt_last | exact zLt_mid | exact Or.inl (by omega) | exact Or.inl (Nat.le_of_ble_eq_true rfl)) (zg_putfield fX1_42 (by first | omega | exact Nat.le_of_ble_eq_true rfl) hB.1 (by exact Nat.le_of_ble_eq_true rfl) (by rfl) (by rfl) (by first | exact Or.inl rfl | exact Or.inr ⟨rfl, by rfl⟩)) rfl (fun h hB => ?_)
  refine zb_go (zg_aload_n rfl) rfl ?_
  refine zb_go (zg_sipush 256 (by decide)) rfl ?_
  refine zb_newB hB (by exact trivial) (zg_newL (N := 256) (by decide) (by decide) (by decide) (hb0 _ (Nat.le_of_ble_eq_true rfl)) hB.2.2.2 (zWf_b (by omega)) (Nat.le_of_ble_eq_true rfl) (Nat.le_of_ble_eq_true rfl)) rfl (fun h hB => ?_)
  refine zb_setB hB (by first | exact trivial | exact zLt_last | exact zLt_mid | exact Or.inl (by omega) | exact Or.inl (Nat.le_of_ble_eq_true rfl)) (zg_putfield fX1_45 (by first | omega | exact Nat.le_of_ble_eq_true rfl) hB.1 (by exact Nat.le_of_ble_eq_true rfl) (by rfl) (by rfl) (by first | exact Or.inl rfl | exact Or.inr ⟨rfl, by rfl⟩)) rfl (fun h hB => ?_)
  refine zb_go (zg_aload_n rfl) rfl ?_
  refine zb_go (zg_sipush 256 (by decide)) rfl ?_
  refine zb_newB hB (by exact trivial) (zg_newL (N := 256) (by decide) (by decide) (by decide) (hb0 _ (Nat.le_of_ble_eq_true rfl)) hB.2.2.2 (zWf_b (by omega)) (Nat.le_of_ble_eq_true rfl) (Nat.le_of_ble_eq_true rfl)) rfl (fun h hB => ?_)
  refine zb_setB hB (by first | exact trivial | exact zLt_last | exact zLt_mid | exact Or.inl (by omega) | exact Or.inl (Nat.le_of_ble_eq_true rfl)) (zg_putfield fX1_49 (by first | omega | exact Nat.le_of_ble_eq_true rfl) hB.1 (by exact Nat.le_of_ble_eq_true rfl) (by rfl) (by rfl) (by first | exact Or.inl rfl | exact Or.inr ⟨rfl, by rfl⟩)) rfl (fun h hB => ?_)
  refine zb_go (zg_aload_n rfl) rfl ?_
  refine zb_go (zg_iconst 0 (by decide)) rfl ?_
  refine zb_setB hB (by first | exact trivial | exact zLt_last | exact zLt_mid | exact Or.inl (by omega) | exact Or.inl (Nat.le_of_ble_eq_true rfl)) (zg_putfield fX1_52 (by first | omega | exact Nat.le_of_ble_eq_true rfl) hB.1 (by exact Nat.le_of_ble_eq_true rfl) (by rfl) (by rfl) (by first | exact Or.inl rfl | exact Or.inr ⟨rfl, by rfl⟩)) rfl (fun h hB => ?_)
  refine zb_go (zg_aload_n rfl) rfl ?_
  refine zb_go (zg_iconst 0 (by decide)) rfl ?_
  refine zb_setB hB (by first | exact trivial | exact zLt_last | exact zLt_mid | exact Or.inl (by omega) | exact Or.inl (Nat.le_of_ble_eq_true rfl)) (zg_putfield fX1_55 (by first | omega | exact Nat.le_of_ble_eq_true rfl) hB.1 (by exact Nat.le_of_ble_eq_true rfl) (by rfl) (by rfl) (by first | exact Or.inl rfl | exact Or.inr ⟨rfl, by rfl⟩)) rfl (fun h hB => ?_)
  refine zb_go (zg_aload_n rfl) rfl ?_
  refine zb_go (zg_ldc2_w cX1_58) rfl ?_
  refine zb_setB hB (by first | exact trivial | exact zLt_last | exact zLt_mid | exact Or.inl (by omega) | exact Or.inl (Nat.le_of_ble_eq_true rfl)) (zg_putfield fX1_60 (by first | omega | exact Nat.le_of_ble_eq_true rfl) hB.1 (by exact Nat.le_of_ble_eq_true rfl) (by rfl) (by rfl) (by first | exact Or.inl rfl | exact Or.inr ⟨rfl, by rfl⟩)) rfl (fun h hB => ?_)
  refine zb_go (zg_aload_n rfl) rfl ?_
  refine zb_go (zg_ldc2_w cX1_63) rfl ?_
  refine zb_setB hB (by first | exact trivial | exact zLt_last | exact zLt_mid | exact Or.inl (by omega) | exact Or.inl (Nat.le_of_ble_eq_true rfl)) (zg_putfield fX1_65 (by first | omega | exact Nat.le_of_ble_eq_true rfl) hB.1 (by exact Nat.le_of_ble_eq_true rfl) (by rfl) (by rfl) (by first | exact Or.inl rfl | exact Or.inr ⟨rfl, by rfl⟩)) rfl (fun h hB => ?_)
  refine zb_go (zg_aload_n rfl) rfl ?_
  refine zb_go (zg_iconst 4 (by decide)) rfl ?_
  refine zb_newB hB (by exact trivial) (zg_newI (N := 4) (by decide) (by decide) (by decide) (hb0 _ (Nat.le_of_ble_eq_true rfl)) hB.2.2.2 (zWf_b (by omega)) (Nat.le_of_ble_eq_true rfl) (Nat.le_of_ble_eq_true rfl)) rfl (fun h hB => ?_)
  refine zb_setB hB (by first | exact trivial | exact zLt_last | exact zLt_mid | exact Or.inl (by omega) | exact Or.inl (Nat.le_of_ble_eq_true rfl)) (zg_putfield fX1_68 (by first | omega | exact Nat.le_of_ble_eq_true rfl) hB.1 (by exact Nat.le_of_ble_eq_true rfl) (by rfl) (by rfl) (by first | exact Or.inl rfl | exact Or.inr ⟨rfl, by rfl⟩)) rfl (fun h hB => ?_)
  refine zb_end (zg_return rfl ?_) rfl
  exact ⟨rfl, rfl, _, _, hB⟩
theorem r_X3_init (hb : b < 900) (hc : h b = .inr (2, [.int 0, .int 0, .null, .null])) (hw : zWfh (b + 1) h) : zRuns K l 1 mX3_init [.ref b] (b + 1) h 2 28 (fun v n' h' => v = none ∧ n' = b + 1 + 2 ∧ ∃ S B, isNone S 4 ∧ isNone B 24 ∧ zBl b 2 [.int 0, .int 0, .ref (b + 1), .ref (b + 2)] [.inl (0, 4, .inl S), .inl (0, 24, .inl B)] h h') := by
  refine zRuns.of (by decide) (Nat.le_of_ble_eq_true rfl) ?_
  have hB := zBl.nil hc hw
  show zGo K l 1 mX3_init 0 [(0, .ref b)] [] (b + 1 + ([] : List va_E).length) h _ _ _
  have hb0 : ∀ ar : List va_E, ar.length < 90 → b + 1 + ar.length < 1000 := fun ar h => by omega
  refine kX3_init_0 ?_
  refine zb_go (zg_aload_n rfl) rfl ?_
  refine zb_go (zg_objInit woX3 z_oI2 z_oI3 (by decide) (Nat.le_of_ble_eq_true rfl)) rfl ?_
  refine zb_go (zg_aload_n rfl) rfl ?_
  refine zb_go (zg_iconst 0 (by decide)) rfl ?_
  refine zb_setB hB (by first | exact trivial | exact zLt_last | exact zLt_mid | exact Or.inl (by omega) | exact Or.inl (Nat.le_of_ble_eq_true rfl)) (zg_putfield fX3_9 (by first | omega | exact Nat.le_of_ble_eq_true rfl) hB.1 (by exact Nat.le_of_ble_eq_true rfl) (by rfl) (by rfl) (by first | exact Or.inl rfl | exact Or.inr ⟨rfl, by rfl⟩)) rfl (fun h hB => ?_)
  refine zb_go (zg_aload_n rfl) rfl ?_
  refine zb_go (zg_iconst 0 (by decide)) rfl ?_
  refine zb_setB hB (by first | exact trivial | exact zLt_last | exact zLt_mid | exact Or.inl (by omega) | exact Or.inl (Nat.le_of_ble_eq_true rfl)) (zg_putfield fX3_15 (by first | omega | exact Nat.le_of_ble_eq_true rfl) hB.1 (by exact Nat.le_of_ble_eq_true rfl) (by rfl) (by rfl) (by first | exact Or.inl rfl | exact Or.inr ⟨rfl, by rfl⟩)) rfl (fun h hB => ?_)
  refine zb_go (zg_aload_n rfl) rfl ?_
  refine zb_go (zg_iconst 4 (by decide)) rfl ?_
  refine zb_newB hB (by exact trivial) (zg_newI (N := 4) (by decide) (by decide) (by decide) (hb0 _ (Nat.le_of_ble_eq_true rfl)) hB.2.2.2 (zWf_b (by omega)) (Nat.le_of_ble_eq_true rfl) (Nat.le_of_ble_eq_true rfl)) rfl (fun h hB => ?_)
  refine zb_setB hB (by first | exact trivial | exact zLt_last | exact zLt_mid | exact Or.inl (by omega) | exact Or.inl (Nat.le_of_ble_eq_true rfl)) (zg_putfield fX3_18 (by first | omega | exact Nat.le_of_ble_eq_true rfl) hB.1 (by exact Nat.le_of_ble_eq_true rfl) (by rfl) (by rfl) (by first | exact Or.inl rfl | exact Or.inr ⟨rfl, by rfl⟩)) rfl (fun h hB => ?_)
  refine zb_go (zg_aload_n rfl) rfl ?_
  refine zb_go (zg_bipush 24 (by decide)) rfl ?_
  refine zb_newB hB (by exact trivial) (zg_newI (N := 24) (by decide) (by decide) (by decide) (hb0 _ (Nat.le_of_ble_eq_true rfl)) hB.2.2.2 (zWf_b (by omega)) (Nat.le_of_ble_eq_true rfl) (Nat.le_of_ble_eq_true rfl)) rfl (fun h hB => ?_)
  refine zb_setB hB (by first | exact trivial | exact zLt_last | exact zLt_mid | exact Or.inl (by omega) | exact Or.inl (Nat.le_of_ble_eq_true rfl)) (zg_putfield fX3_22 (by first | omega | exact Nat.le_of_ble_eq_true rfl) hB.1 (by exact Nat.le_of_ble_eq_true rfl) (by rfl) (by rfl) (by first | exact Or.inl rfl | exact Or.inr ⟨rfl, by rfl⟩)) rfl (fun h hB => ?_)
  refine zb_go (zg_aload_n rfl) rfl ?_
  have hR : isRota h b 0 0 (fun _ => 0) (fun _ => 0) := ⟨hB.1, hB.2.1 0 _ rfl, hB.2.1 1 _ rfl⟩
  refine zb_callvx (r_X3_clean hR (by show b + 2 < b + 1 + 2; omega)) lX3_25 hB.1 rfl rfl (by show b < b + 1 + 2; omega) (by decide) rfl (Nat.le_of_ble_eq_true rfl) rfl ?_
  rintro v h' ⟨rfl, ⟨S, B, hR', hS, hBb⟩, s⟩
  refine zb_end (zg_return rfl ?_) rfl
  refine ⟨rfl, rfl, S, B, hS, hBb, hR'.1, ?_, fun q hq => (s q (by have hq : q < b ∨ b + 1 + 2 ≤ q := hq; omega)).trans (hB.2.2.1 q hq), ?_⟩
  · intro i e hi
    match i, hi with
    | 0, hi => cases hi; exact hR'.2.1
    | 1, hi => cases hi; exact hR'.2.2
  · intro k hk
    have hk : k < b + 1 + 2 := hk
    by_cases q : k < b
    · rw [s k (Or.inl q)]; exact hB.2.2.2 k hk
    · by_cases q0 : k = b
      · subst q0
        rw [hR'.1]
        intro v hv
        simp only [List.mem_cons, List.not_mem_nil, or_false] at hv
        rcases hv with rfl | rfl | rfl | rfl
        · trivial
        · trivial
        · exact Or.inl (by show _ < k + 1 + 2; omega)
        · exact Or.inl (by show _ < k + 1 + 2; omega)
      · by_cases q1 : k = b + 1
        · subst q1; rw [hR'.2.1]; trivial
        · have q2 : k = b + 2 := by omega
          subst q2; rw [hR'.2.2]; trivial
def gZero : zS := (0, fun _ => 0, zP0, tNew zP0, fun _ => false, fun _ => tNew zP0, 0)
set_option maxRecDepth 4000 in
theorem r_X6_init (hc : h 34 = .inr (5, (.long 0 :: .null :: .int 0 :: .null :: .null :: .null :: .null :: .null :: .null :: .null :: .null :: .null :: .null :: .int 0 :: .int 0 :: .int 0 :: .int 0 :: .int 0 :: .int 0 :: .null :: .null :: .null :: .null :: .null :: .null :: .null :: .null :: .null :: .null :: .null :: .int 0 :: .int 0 :: .int 0 :: .int 0 :: .null :: .null :: []))) (hw : zWfh 35 h) : zRuns K l 1 mX6_init [.ref 34] 35 h 24 871 (fun v n' h' => v = none ∧ n' = 59 ∧ mRel h' gZero ∧ zSame 34 58 h h') := by
  refine zRuns.of (by decide) (Nat.le_of_ble_eq_true rfl) ?_
  have hB := zBl.nil hc hw
  show zGo K l 1 mX6_init 0 [(0, .ref 34)] [] (34 + 1 + ([] : List va_E).length) h _ _ _
  have hb0 : ∀ ar : List va_E, ar.length < 90 → 34 + 1 + ar.length < 1000 := fun ar h => by omega
  refine kX6_init_0 ?_
  refine zb_go (zg_aload_n rfl) rfl ?_
  refine zb_go (zg_objInit woX6 z_oI2 z_oI3 (by decide) (Nat.le_of_ble_eq_true rfl)) rfl ?_
  refine zb_go (zg_aload_n rfl) rfl ?_
  refine zb_go (zg_sipush 200 (by decide)) rfl ?_
  refine zb_newB hB (by exact trivial) (zg_newB (N := 200) (by decide) (by decide) (by decide) (hb0 _ (Nat.le_of_ble_eq_true rfl)) hB.2.2.2 (zWf_b (by omega)) (Nat.le_of_ble_eq_true rfl) (Nat.le_of_ble_eq_true rfl)) rfl (fun h hB => ?_)
  refine zb_setB hB (by first | exact trivial | exact zLt_last | exact zLt_mid | exact Or.inl (by omega) | exact Or.inl (Nat.le_of_ble_eq_true rfl)) (zg_putfield fX6_7 (by first | omega | exact Nat.le_of_ble_eq_true rfl) hB.1 (by exact Nat.le_of_ble_eq_true rfl) (by rfl) (by rfl) (by first | exact Or.inl rfl | exact Or.inr ⟨rfl, by rfl⟩)) rfl (fun h hB => ?_)
  refine zb_go (zg_aload_n rfl) rfl ?_
  refine zb_go (zg_iconst 2 (by decide)) rfl ?_
  refine zb_newB hB (by exact trivial) (zg_newI (N := 2) (by decide) (by decide) (by decide) (hb0 _ (Nat.le_of_ble_eq_true rfl)) hB.2.2.2 (zWf_b (by omega)) (Nat.le_of_ble_eq_true rfl) (Nat.le_of_ble_eq_true rfl)) rfl (fun h hB => ?_)
  refine zb_setB hB (by first | exact trivial | exact zLt_last | exact zLt_mid | exact Or.inl (by omega) | exact Or.inl (Nat.le_of_ble_eq_true rfl)) (zg_putfield fX6_13 (by first | omega | exact Nat.le_of_ble_eq_true rfl) hB.1 (by exact Nat.le_of_ble_eq_true rfl) (by rfl) (by rfl) (by first | exact Or.inl rfl | exact Or.inr ⟨rfl, by rfl⟩)) rfl (fun h hB => ?_)
  refine zb_go (zg_aload_n rfl) rfl ?_
  refine zb_go (zg_bipush 8 (by decide)) rfl ?_
  refine zb_newB hB (by exact trivial) (zg_newI (N := 8) (by decide) (by decide) (by decide) (hb0 _ (Nat.le_of_ble_eq_true rfl)) hB.2.2.2 (zWf_b (by omega)) (Nat.le_of_ble_eq_true rfl) (Nat.le_of_ble_eq_true rfl)) rfl (fun h hB => ?_)
  refine zb_setB hB (by first | exact trivial | exact zLt_last | exact zLt_mid | exact Or.inl (by omega) | exact Or.inl (Nat.le_of_ble_eq_true rfl)) (zg_putfield fX6_17 (by first | omega | exact Nat.le_of_ble_eq_true rfl) hB.1 (by exact Nat.le_of_ble_eq_true rfl) (by rfl) (by rfl) (by first | exact Or.inl rfl | exact Or.inr ⟨rfl, by rfl⟩)) rfl (fun h hB => ?_)
  refine zb_go (zg_aload_n rfl) rfl ?_
  refine zb_go (zg_iconst 2 (by decide)) rfl ?_
  refine zb_newB hB (by exact trivial) (zg_newI (N := 2) (by decide) (by decide) (by decide) (hb0 _ (Nat.le_of_ble_eq_true rfl)) hB.2.2.2 (zWf_b (by omega)) (Nat.le_of_ble_eq_true rfl) (Nat.le_of_ble_eq_true rfl)) rfl (fun h hB => ?_)
  refine zb_setB hB (by first | exact trivial | exact zLt_last | exact zLt_mid | exact Or.inl (by omega) | exact Or.inl (Nat.le_of_ble_eq_true rfl)) (zg_putfield fX6_20 (by first | omega | exact Nat.le_of_ble_eq_true rfl) hB.1 (by exact Nat.le_of_ble_eq_true rfl) (by rfl) (by rfl) (by first | exact Or.inl rfl | exact Or.inr ⟨rfl, by rfl⟩)) rfl (fun h hB => ?_)
  refine zb_go (zg_aload_n rfl) rfl ?_
  refine zb_go (zg_bipush 12 (by decide)) rfl ?_
  refine zb_newB hB (by exact trivial) (zg_newI (N := 12) (by decide) (by decide) (by decide) (hb0 _ (Nat.le_of_ble_eq_true rfl)) hB.2.2.2 (zWf_b (by omega)) (Nat.le_of_ble_eq_true rfl) (Nat.le_of_ble_eq_true rfl)) rfl (fun h hB => ?_)
  refine zb_setB hB (by first | exact trivial | exact zLt_last | exact zLt_mid | exact Or.inl (by omega) | exact Or.inl (Nat.le_of_ble_eq_true rfl)) (zg_putfield fX6_23 (by first | omega | exact Nat.le_of_ble_eq_true rfl) hB.1 (by exact Nat.le_of_ble_eq_true rfl) (by rfl) (by rfl) (by first | exact Or.inl rfl | exact Or.inr ⟨rfl, by rfl⟩)) rfl (fun h hB => ?_)
  refine zb_go (zg_aload_n rfl) rfl ?_
  refine zb_go (zg_bipush 12 (by decide)) rfl ?_
  refine zb_newB hB (by exact trivial) (zg_newI (N := 12) (by decide) (by decide) (by decide) (hb0 _ (Nat.le_of_ble_eq_true rfl)) hB.2.2.2 (zWf_b (by omega)) (Nat.le_of_ble_eq_true rfl) (Nat.le_of_ble_eq_true rfl)) rfl (fun h hB => ?_)
  refine zb_setB hB (by first | exact trivial | exact zLt_last | exact zLt_mid | exact Or.inl (by omega) | exact Or.inl (Nat.le_of_ble_eq_true rfl)) (zg_putfield fX6_26 (by first | omega | exact Nat.le_of_ble_eq_true rfl) hB.1 (by exact Nat.le_of_ble_eq_true rfl) (by rfl) (by rfl) (by first | exact Or.inl rfl | exact Or.inr ⟨rfl, by rfl⟩)) rfl (fun h hB => ?_)
  refine zb_go (zg_aload_n rfl) rfl ?_
  refine zb_go (zg_bipush 12 (by decide)) rfl ?_
  refine zb_newB hB (by exact trivial) (zg_newI (N := 12) (by decide) (by decide) (by decide) (hb0 _ (Nat.le_of_ble_eq_true rfl)) hB.2.2.2 (zWf_b (by omega)) (Nat.le_of_ble_eq_true rfl) (Nat.le_of_ble_eq_true rfl)) rfl (fun h hB => ?_)
  refine zb_setB hB (by first | exact trivial | exact zLt_last | exact zLt_mid | exact Or.inl (by omega) | exact Or.inl (Nat.le_of_ble_eq_true rfl)) (zg_putfield fX6_29 (by first | omega | exact Nat.le_of_ble_eq_true rfl) hB.1 (by exact Nat.le_of_ble_eq_true rfl) (by rfl) (by rfl) (by first | exact Or.inl rfl | exact Or.inr ⟨rfl, by rfl⟩)) rfl (fun h hB => ?_)
  refine zb_go (zg_aload_n rfl) rfl ?_
  refine zb_go (zg_bipush 12 (by decide)) rfl ?_
  refine zb_newB hB (by exact trivial) (zg_newI (N := 12) (by decide) (by decide) (by decide) (hb0 _ (Nat.le_of_ble_eq_true rfl)) hB.2.2.2 (zWf_b (by omega)) (Nat.le_of_ble_eq_true rfl) (Nat.le_of_ble_eq_true rfl)) rfl (fun h hB => ?_)
  refine zb_setB hB (by first | exact trivial | exact zLt_last | exact zLt_mid | exact Or.inl (by omega) | exact Or.inl (Nat.le_of_ble_eq_true rfl)) (zg_putfield fX6_32 (by first | omega | exact Nat.le_of_ble_eq_true rfl) hB.1 (by exact Nat.le_of_ble_eq_true rfl) (by rfl) (by rfl) (by first | exact Or.inl rfl | exact Or.inr ⟨rfl, by rfl⟩)) rfl (fun h hB => ?_)
  refine zb_go (zg_aload_n rfl) rfl ?_
  refine zb_go (zg_iconst 2 (by decide)) rfl ?_
  refine zb_newB hB (by exact trivial) (zg_newI (N := 2) (by decide) (by decide) (by decide) (hb0 _ (Nat.le_of_ble_eq_true rfl)) hB.2.2.2 (zWf_b (by omega)) (Nat.le_of_ble_eq_true rfl) (Nat.le_of_ble_eq_true rfl)) rfl (fun h hB => ?_)
  refine zb_setB hB (by first | exact trivial | exact zLt_last | exact zLt_mid | exact Or.inl (by omega) | exact Or.inl (Nat.le_of_ble_eq_true rfl)) (zg_putfield fX6_35 (by first | omega | exact Nat.le_of_ble_eq_true rfl) hB.1 (by exact Nat.le_of_ble_eq_true rfl) (by rfl) (by rfl) (by first | exact Or.inl rfl | exact Or.inr ⟨rfl, by rfl⟩)) rfl (fun h hB => ?_)
  refine zb_go (zg_aload_n rfl) rfl ?_
  refine zb_go (zg_iconst 2 (by decide)) rfl ?_
  refine zb_newB hB (by exact trivial) (zg_newI (N := 2) (by decide) (by decide) (by decide) (hb0 _ (Nat.le_of_ble_eq_true rfl)) hB.2.2.2 (zWf_b (by omega)) (Nat.le_of_ble_eq_true rfl) (Nat.le_of_ble_eq_true rfl)) rfl (fun h hB => ?_)
  refine zb_setB hB (by first | exact trivial | exact zLt_last | exact zLt_mid | exact Or.inl (by omega) | exact Or.inl (Nat.le_of_ble_eq_true rfl)) (zg_putfield fX6_38 (by first | omega | exact Nat.le_of_ble_eq_true rfl) hB.1 (by exact Nat.le_of_ble_eq_true rfl) (by rfl) (by rfl) (by first | exact Or.inl rfl | exact Or.inr ⟨rfl, by rfl⟩)) rfl (fun h hB => ?_)
  refine zb_go (zg_aload_n rfl) rfl ?_
  refine zb_go (zg_iconst 2 (by decide)) rfl ?_
  refine zb_newB hB (by exact trivial) (zg_newI (N := 2) (by decide) (by decide) (by decide) (hb0 _ (Nat.le_of_ble_eq_true rfl)) hB.2.2.2 (zWf_b (by omega)) (Nat.le_of_ble_eq_true rfl) (Nat.le_of_ble_eq_true rfl)) rfl (fun h hB => ?_)
  refine zb_setB hB (by first | exact trivial | exact zLt_last | exact zLt_mid | exact Or.inl (by omega) | exact Or.inl (Nat.le_of_ble_eq_true rfl)) (zg_putfield fX6_41 (by first | omega | exact Nat.le_of_ble_eq_true rfl) hB.1 (by exact Nat.le_of_ble_eq_true rfl) (by rfl) (by rfl) (by first | exact Or.inl rfl | exact Or.inr ⟨rfl, by rfl⟩)) rfl (fun h hB => ?_)
  refine zb_go (zg_aload_n rfl) rfl ?_
  refine zb_go (zg_bipush 51 (by decide)) rfl ?_
  refine zb_newB hB (by exact trivial) (zg_newI (N := 51) (by decide) (by decide) (by decide) (hb0 _ (Nat.le_of_ble_eq_true rfl)) hB.2.2.2 (zWf_b (by omega)) (Nat.le_of_ble_eq_true rfl) (Nat.le_of_ble_eq_true rfl)) rfl (fun h hB => ?_)
  refine zb_setB hB (by first | exact trivial | exact zLt_last | exact zLt_mid | exact Or.inl (by omega) | exact Or.inl (Nat.le_of_ble_eq_true rfl)) (zg_putfield fX6_44 (by first | omega | exact Nat.le_of_ble_eq_true rfl) hB.1 (by exact Nat.le_of_ble_eq_true rfl) (by rfl) (by rfl) (by first | exact Or.inl rfl | exact Or.inr ⟨rfl, by rfl⟩)) rfl (fun h hB => ?_)
  refine zb_go (zg_aload_n rfl) rfl ?_
  refine zb_go (zg_iconst 2 (by decide)) rfl ?_
  refine zb_newB hB (by exact trivial) (zg_newZ (N := 2) (by decide) (by decide) (by decide) (hb0 _ (Nat.le_of_ble_eq_true rfl)) hB.2.2.2 (zWf_b (by omega)) (Nat.le_of_ble_eq_true rfl) (Nat.le_of_ble_eq_true rfl)) rfl (fun h hB => ?_)
  refine zb_setB hB (by first | exact trivial | exact zLt_last | exact zLt_mid | exact Or.inl (by omega) | exact Or.inl (Nat.le_of_ble_eq_true rfl)) (zg_putfield fX6_47 (by first | omega | exact Nat.le_of_ble_eq_true rfl) hB.1 (by exact Nat.le_of_ble_eq_true rfl) (by rfl) (by rfl) (by first | exact Or.inl rfl | exact Or.inr ⟨rfl, by rfl⟩)) rfl (fun h hB => ?_)
  refine zb_go (zg_aload_n rfl) rfl ?_
  refine zb_go (zg_sipush 256 (by decide)) rfl ?_
  refine zb_newB hB (by exact trivial) (zg_newI (N := 256) (by decide) (by decide) (by decide) (hb0 _ (Nat.le_of_ble_eq_true rfl)) hB.2.2.2 (zWf_b (by omega)) (Nat.le_of_ble_eq_true rfl) (Nat.le_of_ble_eq_true rfl)) rfl (fun h hB => ?_)
  refine zb_setB hB (by first | exact trivial | exact zLt_last | exact zLt_mid | exact Or.inl (by omega) | exact Or.inl (Nat.le_of_ble_eq_true rfl)) (zg_putfield fX6_51 (by first | omega | exact Nat.le_of_ble_eq_true rfl) hB.1 (by exact Nat.le_of_ble_eq_true rfl) (by rfl) (by rfl) (by first | exact Or.inl rfl | exact Or.inr ⟨rfl, by rfl⟩)) rfl (fun h hB => ?_)
  refine zb_go (zg_aload_n rfl) rfl ?_
  refine zb_go (zg_sipush 256 (by decide)) rfl ?_
  refine zb_newB hB (by exact trivial) (zg_newI (N := 256) (by decide) (by decide) (by decide) (hb0 _ (Nat.le_of_ble_eq_true rfl)) hB.2.2.2 (zWf_b (by omega)) (Nat.le_of_ble_eq_true rfl) (Nat.le_of_ble_eq_true rfl)) rfl (fun h hB => ?_)
  refine zb_setB hB (by first | exact trivial | exact zLt_last | exact zLt_mid | exact Or.inl (by omega) | exact Or.inl (Nat.le_of_ble_eq_true rfl)) (zg_putfield fX6_54 (by first | omega | exact Nat.le_of_ble_eq_true rfl) hB.1 (by exact Nat.le_of_ble_eq_true rfl) (by rfl) (by rfl) (by first | exact Or.inl rfl | exact Or.inr ⟨rfl, by rfl⟩)) rfl (fun h hB => ?_)
  refine zb_go (zg_aload_n rfl) rfl ?_
  refine zb_go (zg_iconst 4 (by decide)) rfl ?_
  refine zb_newB hB (by exact trivial) (zg_newI (N := 4) (by decide) (by decide) (by decide) (hb0 _ (Nat.le_of_ble_eq_true rfl)) hB.2.2.2 (zWf_b (by omega)) (Nat.le_of_ble_eq_true rfl) (Nat.le_of_ble_eq_true rfl)) rfl (fun h hB => ?_)
  refine zb_setB hB (by first | exact trivial | exact zLt_last | exact zLt_mid | exact Or.inl (by omega) | exact Or.inl (Nat.le_of_ble_eq_true rfl)) (zg_putfield fX6_57 (by first | omega | exact Nat.le_of_ble_eq_true rfl) hB.1 (by exact Nat.le_of_ble_eq_true rfl) (by rfl) (by rfl) (by first | exact Or.inl rfl | exact Or.inr ⟨rfl, by rfl⟩)) rfl (fun h hB => ?_)
  refine zb_go (zg_aload_n rfl) rfl ?_
  refine zb_go (zg_iconst 4 (by decide)) rfl ?_
  refine zb_newB hB (by exact trivial) (zg_newI (N := 4) (by decide) (by decide) (by decide) (hb0 _ (Nat.le_of_ble_eq_true rfl)) hB.2.2.2 (zWf_b (by omega)) (Nat.le_of_ble_eq_true rfl) (Nat.le_of_ble_eq_true rfl)) rfl (fun h hB => ?_)
  refine zb_setB hB (by first | exact trivial | exact zLt_last | exact zLt_mid | exact Or.inl (by omega) | exact Or.inl (Nat.le_of_ble_eq_true rfl)) (zg_putfield fX6_60 (by first | omega | exact Nat.le_of_ble_eq_true rfl) hB.1 (by exact Nat.le_of_ble_eq_true rfl) (by rfl) (by rfl) (by first | exact Or.inl rfl | exact Or.inr ⟨rfl, by rfl⟩)) rfl (fun h hB => ?_)
  refine zb_go (zg_aload_n rfl) rfl ?_
  refine zb_go (zg_iconst 4 (by decide)) rfl ?_
  refine zb_newB hB (by exact trivial) (zg_newI (N := 4) (by decide) (by decide) (by decide) (hb0 _ (Nat.le_of_ble_eq_true rfl)) hB.2.2.2 (zWf_b (by omega)) (Nat.le_of_ble_eq_true rfl) (Nat.le_of_ble_eq_true rfl)) rfl (fun h hB => ?_)
  refine zb_setB hB (by first | exact trivial | exact zLt_last | exact zLt_mid | exact Or.inl (by omega) | exact Or.inl (Nat.le_of_ble_eq_true rfl)) (zg_putfield fX6_63 (by first | omega | exact Nat.le_of_ble_eq_true rfl) hB.1 (by exact Nat.le_of_ble_eq_true rfl) (by rfl) (by rfl) (by first | exact Or.inl rfl | exact Or.inr ⟨rfl, by rfl⟩)) rfl (fun h hB => ?_)
  refine zb_go (zg_aload_n rfl) rfl ?_
  refine zb_go (zg_iconst 5 (by decide)) rfl ?_
  refine zb_newB hB (by exact trivial) (zg_newI (N := 5) (by decide) (by decide) (by decide) (hb0 _ (Nat.le_of_ble_eq_true rfl)) hB.2.2.2 (zWf_b (by omega)) (Nat.le_of_ble_eq_true rfl) (Nat.le_of_ble_eq_true rfl)) rfl (fun h hB => ?_)
  refine zb_setB hB (by first | exact trivial | exact zLt_last | exact zLt_mid | exact Or.inl (by omega) | exact Or.inl (Nat.le_of_ble_eq_true rfl)) (zg_putfield fX6_66 (by first | omega | exact Nat.le_of_ble_eq_true rfl) hB.1 (by exact Nat.le_of_ble_eq_true rfl) (by rfl) (by rfl) (by first | exact Or.inl rfl | exact Or.inr ⟨rfl, by rfl⟩)) rfl (fun h hB => ?_)
  refine zb_go (zg_aload_n rfl) rfl ?_
  refine zb_go (zg_iconst 5 (by decide)) rfl ?_
  refine zb_newB hB (by exact trivial) (zg_newI (N := 5) (by decide) (by decide) (by decide) (hb0 _ (Nat.le_of_ble_eq_true rfl)) hB.2.2.2 (zWf_b (by omega)) (Nat.le_of_ble_eq_true rfl) (Nat.le_of_ble_eq_true rfl)) rfl (fun h hB => ?_)
  refine zb_setB hB (by first | exact trivial | exact zLt_last | exact zLt_mid | exact Or.inl (by omega) | exact Or.inl (Nat.le_of_ble_eq_true rfl)) (zg_putfield fX6_69 (by first | omega | exact Nat.le_of_ble_eq_true rfl) hB.1 (by exact Nat.le_of_ble_eq_true rfl) (by rfl) (by rfl) (by first | exact Or.inl rfl | exact Or.inr ⟨rfl, by rfl⟩)) rfl (fun h hB => ?_)
  refine zb_go (zg_aload_n rfl) rfl ?_
  refine zb_go (zg_iconst 5 (by decide)) rfl ?_
  refine zb_newB hB (by exact trivial) (zg_newI (N := 5) (by decide) (by decide) (by decide) (hb0 _ (Nat.le_of_ble_eq_true rfl)) hB.2.2.2 (zWf_b (by omega)) (Nat.le_of_ble_eq_true rfl) (Nat.le_of_ble_eq_true rfl)) rfl (fun h hB => ?_)
  refine zb_setB hB (by first | exact trivial | exact zLt_last | exact zLt_mid | exact Or.inl (by omega) | exact Or.inl (Nat.le_of_ble_eq_true rfl)) (zg_putfield fX6_72 (by first | omega | exact Nat.le_of_ble_eq_true rfl) hB.1 (by exact Nat.le_of_ble_eq_true rfl) (by rfl) (by rfl) (by first | exact Or.inl rfl | exact Or.inr ⟨rfl, by rfl⟩)) rfl (fun h hB => ?_)
  refine zb_go (zg_aload_n rfl) rfl ?_
  refine zb_go (zg_iconst 5 (by decide)) rfl ?_
  refine zb_newB hB (by exact trivial) (zg_newI (N := 5) (by decide) (by decide) (by decide) (hb0 _ (Nat.le_of_ble_eq_true rfl)) hB.2.2.2 (zWf_b (by omega)) (Nat.le_of_ble_eq_true rfl) (Nat.le_of_ble_eq_true rfl)) rfl (fun h hB => ?_)
  refine zb_setB hB (by first | exact trivial | exact zLt_last | exact zLt_mid | exact Or.inl (by omega) | exact Or.inl (Nat.le_of_ble_eq_true rfl)) (zg_putfield fX6_75 (by first | omega | exact Nat.le_of_ble_eq_true rfl) hB.1 (by exact Nat.le_of_ble_eq_true rfl) (by rfl) (by rfl) (by first | exact Or.inl rfl | exact Or.inr ⟨rfl, by rfl⟩)) rfl (fun h hB => ?_)
  refine zb_go (zg_aload_n rfl) rfl ?_
  refine zb_go (zg_iconst 4 (by decide)) rfl ?_
  refine zb_newB hB (by exact trivial) (zg_newI (N := 4) (by decide) (by decide) (by decide) (hb0 _ (Nat.le_of_ble_eq_true rfl)) hB.2.2.2 (zWf_b (by omega)) (Nat.le_of_ble_eq_true rfl) (Nat.le_of_ble_eq_true rfl)) rfl (fun h hB => ?_)
  refine zb_setB hB (by first | exact trivial | exact zLt_last | exact zLt_mid | exact Or.inl (by omega) | exact Or.inl (Nat.le_of_ble_eq_true rfl)) (zg_putfield fX6_78 (by first | omega | exact Nat.le_of_ble_eq_true rfl) hB.1 (by exact Nat.le_of_ble_eq_true rfl) (by rfl) (by rfl) (by first | exact Or.inl rfl | exact Or.inr ⟨rfl, by rfl⟩)) rfl (fun h hB => ?_)
  refine zb_go (zg_aload_n rfl) rfl ?_
  refine zb_go (zg_iconst 4 (by decide)) rfl ?_
  refine zb_newB hB (by exact trivial) (zg_newI (N := 4) (by decide) (by decide) (by decide) (hb0 _ (Nat.le_of_ble_eq_true rfl)) hB.2.2.2 (zWf_b (by omega)) (Nat.le_of_ble_eq_true rfl) (Nat.le_of_ble_eq_true rfl)) rfl (fun h hB => ?_)
  refine zb_setB hB (by first | exact trivial | exact zLt_last | exact zLt_mid | exact Or.inl (by omega) | exact Or.inl (Nat.le_of_ble_eq_true rfl)) (zg_putfield fX6_81 (by first | omega | exact Nat.le_of_ble_eq_true rfl) hB.1 (by exact Nat.le_of_ble_eq_true rfl) (by rfl) (by rfl) (by first | exact Or.inl rfl | exact Or.inr ⟨rfl, by rfl⟩)) rfl (fun h hB => ?_)
  have c36 : h 36 = .inl (0, 2, .inl (fun _ => 0)) := hB.2.1 1 _ rfl
  have c37 : h 37 = .inl (0, 8, .inl (fun _ => 0)) := hB.2.1 2 _ rfl
  have c44 : h 44 = .inl (0, 2, .inl (fun _ => 0)) := hB.2.1 9 _ rfl
  change zGb K l 1 mX6_init _ _ _ _ 59 h 0 0 _
  have h34 : h 34 = mObj 0 0 (0, 0, 0, 0, 0, 0, 0, 0, 0, 0) := hB.1
  have h1 : h 34 = .inr _ := h34
  refine zb_go (zg_aload_n rfl) rfl ?_
  refine zb_go (zg_getfield fX6_38 (by decide) h1 (by rfl)) rfl ?_
  refine zb_go (zg_iconst 0 (by decide)) rfl ?_
  refine zb_go (zg_iconst 1 (by decide)) rfl ?_
  refine zb_go (zi_iastore (by decide) c44 (by exact zIx.nI (k := 0) (by decide) (by decide))) rfl ?_
  refine zb_go (zg_aload_n rfl) rfl ?_
  have C : ∀ {i : Nat} {e : va_E}, _ → h (34 + 1 + i) = e := fun {i e} => hB.2.1 i e
  have c35 : h 35 = .inl (1, 200, .inl (fun _ => 0)) := C (i := 0) rfl
  have c38 : h 38 = .inl (0, 2, .inl (fun _ => 0)) := C (i := 3) rfl
  have c39 : h 39 = .inl (0, 12, .inl (fun _ => 0)) := C (i := 4) rfl
  have c40 : h 40 = .inl (0, 12, .inl (fun _ => 0)) := C (i := 5) rfl
  have c41 : h 41 = .inl (0, 12, .inl (fun _ => 0)) := C (i := 6) rfl
  have c42 : h 42 = .inl (0, 12, .inl (fun _ => 0)) := C (i := 7) rfl
  have c43 : h 43 = .inl (0, 2, .inl (fun _ => 0)) := C (i := 8) rfl
  have c45 : h 45 = .inl (0, 2, .inl (fun _ => 0)) := C (i := 10) rfl
  have c46 : h 46 = .inl (0, 51, .inl (fun _ => 0)) := C (i := 11) rfl
  have c47 : h 47 = .inl (3, 2, .inl (fun _ => 0)) := C (i := 12) rfl
  have c48 : h 48 = .inl (0, 256, .inl (fun _ => 0)) := C (i := 13) rfl
  have c49 : h 49 = .inl (0, 256, .inl (fun _ => 0)) := C (i := 14) rfl
  have c50 : h 50 = .inl (0, 4, .inl (fun _ => 0)) := C (i := 15) rfl
  have c51 : h 51 = .inl (0, 4, .inl (fun _ => 0)) := C (i := 16) rfl
  have c52 : h 52 = .inl (0, 4, .inl (fun _ => 0)) := C (i := 17) rfl
  have c53 : h 53 = .inl (0, 5, .inl (fun _ => 0)) := C (i := 18) rfl
  have c54 : h 54 = .inl (0, 5, .inl (fun _ => 0)) := C (i := 19) rfl
  have c55 : h 55 = .inl (0, 5, .inl (fun _ => 0)) := C (i := 20) rfl
  have c56 : h 56 = .inl (0, 5, .inl (fun _ => 0)) := C (i := 21) rfl
  have c57 : h 57 = .inl (0, 4, .inl (fun _ => 0)) := C (i := 22) rfl
  have c58 : h 58 = .inl (0, 4, .inl (fun _ => 0)) := C (i := 23) rfl
  have hl := hB.2.2.1
  clear hB C
  refine zb_callvx (r_X6_begin ⟨_, _, _, (z_up_ne (by decide)).trans h34⟩ ((z_up_ne (by decide)).trans c43) ((z_up_ne (by decide)).trans c46) ((z_up_ne (by decide)).trans c47)) lX6_84 ((z_up_ne (by decide)).trans h1) rfl rfl (by decide) (by decide) rfl (Nat.le_of_ble_eq_true rfl) rfl ?_
  rintro v h' ⟨rfl, F, kf, rfl, n1, n2, n3, n4⟩
  refine zb_end (zg_return rfl ?_) rfl
  have e0 : nI 0 = 0 := by decide
  have up : ∀ {j : Nat} {E A B D : va_E}, j ≠ 44 → j ≠ 46 → j ≠ 47 → h j = E → z_up (z_up (z_up h 44 A) 46 B) 47 D j = E := fun h1 h2 h3 hE => (z_up_ne h3).trans ((z_up_ne h2).trans ((z_up_ne h1).trans hE))
  refine ⟨rfl, rfl, ⟨(0, 0, 0, 0, 0, 0, 0, 0, 0, 0), F, kf, up (by decide) (by decide) (by decide) h34, ⟨_, up (by decide) (by decide) (by decide) c35, fun i hi => absurd hi (Nat.not_lt_zero _)⟩, ?_, ?_, mNow_new n1 (n2.trans e0.symm), z_up_self _ _ _, ?_, fun i _ hi => absurd (show false = true from hi) (by decide), ?_⟩, fun k hk => ?_⟩
  · exact ⟨⟨_, up (by decide) (by decide) (by decide) c36, e0.symm⟩, ⟨_, up (by decide) (by decide) (by decide) c37, fun i hi => absurd hi (Nat.not_lt_zero _)⟩, ⟨_, up (by decide) (by decide) (by decide) c38, e0.symm⟩, ⟨_, up (by decide) (by decide) (by decide) c39, fun i hi => absurd hi (Nat.not_lt_zero _)⟩, ⟨_, up (by decide) (by decide) (by decide) c40, fun i hi => absurd hi (Nat.not_lt_zero _)⟩, ⟨_, up (by decide) (by decide) (by decide) c41, fun i hi => absurd hi (Nat.not_lt_zero _)⟩, ⟨_, up (by decide) (by decide) (by decide) c42, fun i hi => absurd hi (Nat.not_lt_zero _)⟩, ⟨_, up (by decide) (by decide) (by decide) c43⟩, ⟨_, (z_up_ne (by decide)).trans ((z_up_ne (by decide)).trans (z_up_self _ _ _)), by decide⟩, ⟨_, up (by decide) (by decide) (by decide) c45, e0.symm⟩⟩
  · exact (z_up_ne (by decide)).trans (z_up_self _ _ _)
  · intro i hi
    match i, hi with
    | 0, _ => exact n3
    | 1, _ => exact n4
  · exact ⟨⟨_, up (by decide) (by decide) (by decide) c48⟩, ⟨_, up (by decide) (by decide) (by decide) c49⟩, ⟨_, up (by decide) (by decide) (by decide) c50⟩, ⟨_, up (by decide) (by decide) (by decide) c51⟩, ⟨_, up (by decide) (by decide) (by decide) c52⟩, ⟨_, up (by decide) (by decide) (by decide) c53, rfl⟩, ⟨_, up (by decide) (by decide) (by decide) c54, rfl⟩, ⟨_, up (by decide) (by decide) (by decide) c55, rfl⟩, ⟨_, up (by decide) (by decide) (by decide) c56, rfl⟩, ⟨_, up (by decide) (by decide) (by decide) c57⟩, ⟨_, up (by decide) (by decide) (by decide) c58⟩⟩
  · exact (z_up_ne (by omega)).trans ((z_up_ne (by omega)).trans ((z_up_ne (by omega)).trans (hl k (by show k < 34 ∨ 59 ≤ k; omega))))

end
section
variable {K : zK} {l : Launch} {h0 h : zH}
theorem wqX3 : Cond.classLink RX5 26 RX3 ∈ z_all := z_in (List.mem_of_getElem? (i := 172) (by decide +kernel)) (by decide +kernel)
theorem z_imgs {n k x : Nat} {f : Nat → Option Nat} (hx : x < n) (hf : ∀ j a, f j = some a → a < n ∨ 1000 ≤ a) : zLe n (.inl (4, 2, .inr (.inr (.inr (.inr (va_up f k (some x))))))) := by
  intro j a hj
  unfold va_up at hj
  split at hj
  · cases hj; exact Or.inl hx
  · exact hf j a hj
set_option maxRecDepth 4000 in
theorem r_X5_loop {S0 B0 : Nat → Int32} {x1 y1 : Int64} (hS0 : isNone S0 4) (hB0 : isNone B0 24) (hB : zBl 0 4 [.ref 1, .ref 5, .ref 11, .ref 17, .ref 20, .ref 21, .ref 22, .long 0] (.inr (3, [.int 0, .ref 2, .int 0, .int (-1), .ref 3, .ref 4]) :: .inl (1, 200, .inl (fun _ => 0)) :: .inl (0, 4, .inl (fun _ => 0)) :: .inl (3, 5, .inl (fun _ => 0)) :: .inr (1, [.int 0, .int 0, .int 0, .int 1, .int 0, .ref 6, .ref 7, .ref 8, .ref 9, .ref 10]) :: .inl (0, 4, .inl (fun _ => 0)) :: .inl (0, 6, .inl (fun _ => 0)) :: .inl (0, 6, .inl (fun _ => 0)) :: .inl (0, 6, .inl (fun _ => 0)) :: .inl (0, 6, .inl (fun _ => 0)) :: .inr (1, [.int 0, .int 0, .int 0, .int 1, .int 0, .ref 12, .ref 13, .ref 14, .ref 15, .ref 16]) :: .inl (0, 4, .inl (fun _ => 0)) :: .inl (0, 6, .inl (fun _ => 0)) :: .inl (0, 6, .inl (fun _ => 0)) :: .inl (0, 6, .inl (fun _ => 0)) :: .inl (0, 6, .inl (fun _ => 0)) :: .inr (2, [.int 0, .int 0, .ref 18, .ref 19]) :: .inl (0, 4, .inl S0) :: .inl (0, 24, .inl B0) :: .inl (4, 2, .inr (.inr (.inr (.inr (fun _ => none))))) :: .inl (3, 2, .inl (fun _ => 0)) :: .inr (0, .int 0 :: .int 0 :: .int 1 :: .int 0 :: .long 0 :: .int (-1) :: .int (-1) :: .int (-1) :: .ref 23 :: .ref 24 :: .ref 25 :: .ref 26 :: .int 0 :: .int 0 :: .long x1 :: .long y1 :: .ref 27 :: []) :: .inl (0, 256, .inl (fun _ => 0)) :: .inl (0, 4, .inl (fun _ => 0)) :: .inl (2, 256, .inr (.inl (fun _ => 0))) :: .inl (2, 256, .inr (.inl (fun _ => 0))) :: .inl (0, 4, .inl (fun _ => 0)) :: []) h0 h) : zGo K l 2 mX5_init 81 [(0, .ref 0), (1, .int 0)] [] 28 h 6 64 (fun v n' h' => v = none ∧ n' = 34 ∧ cRel h' gZero ∧ zWfh 34 h') := by
  have hb0 : ∀ ar : List va_E, ar.length < 90 → 0 + 1 + ar.length < 1000 := fun ar h => by omega
  refine kX5_init_81 ?_
  refine zb_go (zg_iload_n rfl) rfl ?_
  refine zb_go (zg_iconst 2 (by decide)) rfl ?_
  refine zb_br (zg_icmp_ge (tgt := 105) (by decide)) rfl (fun c => absurd c (by decide)) (fun _ => ?_)
  refine zb_go (zg_aload_n rfl) rfl ?_
  refine zb_go (zg_getfield fX5_33 (Nat.le_of_ble_eq_true rfl) hB.1 (by rfl)) rfl ?_
  refine zb_go (zg_iload_n rfl) rfl ?_
  refine zb_newB hB (by exact zLd rfl) (zg_new (N := 4) wnX3 (hb0 _ (Nat.le_of_ble_eq_true rfl)) hB.2.2.2 (zWf_l (Or.inl (Nat.le_of_ble_eq_true rfl)) (zWf_l trivial (zWf_s trivial (zWf_s (Or.inl (Nat.le_of_ble_eq_true rfl)) zWf_nil)))) (Nat.le_of_ble_eq_true rfl) (Nat.le_of_ble_eq_true rfl)) rfl (fun h hB => ?_)
  refine zb_go (zg_dup rfl) rfl ?_
  refine zb_calli (r_X3_init (Nat.le_of_ble_eq_true rfl) (hB.2.1 _ _ (List.getElem?_concat_length ..)) hB.2.2.2) lX5_28 rfl (by decide) (Nat.le_of_ble_eq_true rfl) (Nat.le_of_ble_eq_true rfl) (Nat.le_of_ble_eq_true rfl) (zWf_l (Or.inl (Nat.le_of_ble_eq_true rfl)) (zWf_l trivial (zWf_s (Or.inl (Nat.le_of_ble_eq_true rfl)) (zWf_s trivial (zWf_s (Or.inl (Nat.le_of_ble_eq_true rfl)) zWf_nil))))) rfl ?_
  rintro n1 h1 ⟨rfl, S1, B1, hS1, hB1, hB2⟩
  have hB := hB.sub hB2
  clear hB2
  refine zb_cellB (j := 19) hB (Nat.le_of_ble_eq_true rfl) (by exact z_imgs (Nat.le_of_ble_eq_true rfl) (fun j a hj => absurd hj (by simp))) (zg_aastore (k := 0) (x := 28) (Nat.le_of_ble_eq_true rfl) (hB.2.1 19 _ rfl) (by exact zIx.nI (k := 0) (by decide) (by decide)) (Nat.le_of_ble_eq_true rfl) (hB.2.1 27 _ rfl)) rfl (fun h hB => ?_)
  refine zb_go (zg_iinc 1 (by decide) rfl (by decide)) rfl ?_
  refine zb_end (zg_goto (tgt := 81) (by decide) ?_) rfl
  refine kX5_init_81 ?_
  refine zb_go (zg_iload_n rfl) rfl ?_
  refine zb_go (zg_iconst 2 (by decide)) rfl ?_
  refine zb_br (zg_icmp_ge (tgt := 105) (by decide)) rfl (fun c => absurd c (by decide)) (fun _ => ?_)
  refine zb_go (zg_aload_n rfl) rfl ?_
  refine zb_go (zg_getfield fX5_33 (Nat.le_of_ble_eq_true rfl) hB.1 (by rfl)) rfl ?_
  refine zb_go (zg_iload_n rfl) rfl ?_
  refine zb_newB hB (by exact zLd rfl) (zg_new (N := 4) wnX3 (hb0 _ (Nat.le_of_ble_eq_true rfl)) hB.2.2.2 (zWf_l (Or.inl (Nat.le_of_ble_eq_true rfl)) (zWf_l trivial (zWf_s trivial (zWf_s (Or.inl (Nat.le_of_ble_eq_true rfl)) zWf_nil)))) (Nat.le_of_ble_eq_true rfl) (Nat.le_of_ble_eq_true rfl)) rfl (fun h hB => ?_)
  refine zb_go (zg_dup rfl) rfl ?_
  refine zb_calli (r_X3_init (Nat.le_of_ble_eq_true rfl) (hB.2.1 _ _ (List.getElem?_concat_length ..)) hB.2.2.2) lX5_28 rfl (by decide) (Nat.le_of_ble_eq_true rfl) (Nat.le_of_ble_eq_true rfl) (Nat.le_of_ble_eq_true rfl) (zWf_l (Or.inl (Nat.le_of_ble_eq_true rfl)) (zWf_l trivial (zWf_s (Or.inl (Nat.le_of_ble_eq_true rfl)) (zWf_s trivial (zWf_s (Or.inl (Nat.le_of_ble_eq_true rfl)) zWf_nil))))) rfl ?_
  rintro n1 h1 ⟨rfl, S2, B2, hS2, hB2, hB2⟩
  have hB := hB.sub hB2
  clear hB2
  refine zb_cellB (j := 19) hB (Nat.le_of_ble_eq_true rfl) (by exact z_imgs (Nat.le_of_ble_eq_true rfl) (z_imgs (n := 34) (k := 0) (x := 28) (by decide) (fun j a hj => absurd hj (by simp)))) (zg_aastore (k := 1) (x := 31) (Nat.le_of_ble_eq_true rfl) (hB.2.1 19 _ rfl) (by exact zIx.nI (k := 1) (by decide) (by decide)) (Nat.le_of_ble_eq_true rfl) (hB.2.1 30 _ rfl)) rfl (fun h hB => ?_)
  refine zb_go (zg_iinc 1 (by decide) rfl (by decide)) rfl ?_
  refine zb_end (zg_goto (tgt := 81) (by decide) ?_) rfl
  refine kX5_init_81 ?_
  refine zb_go (zg_iload_n rfl) rfl ?_
  refine zb_go (zg_iconst 2 (by decide)) rfl ?_
  refine zb_br (zg_icmp_ge (tgt := 105) (by decide)) rfl (fun _ => ?_) (fun c => absurd (show (2 : Int32) ≤ 2 by decide) c)
  refine kX5_init_105 ?_
  refine zb_end (zg_return rfl ?_) rfl
  have hw : zWfh 34 _ := hB.2.2.2
  have e0 : nI 0 = 0 := by decide
  have k := hB.2.1
  have hR : ∀ {S B : Nat → Int32}, isNone S 4 → isNone B 24 → rB B (tNew zP0) ∧ rS S (tNew zP0) := fun hS hB => ⟨fun r g hr hg => (hB _ (by omega)).trans (if_pos rfl).symm, fun g hg => (hS _ hg).trans (if_pos rfl).symm⟩
  refine ⟨rfl, rfl, ⟨5, 11, zP0, (0, 0, 1, 0, 0, -1, -1, -1, fun _ => 0, fun _ => 0, fun _ => 0, fun _ => 0, 0, 0, x1, y1, fun _ => 0), fun _ => 0, Or.inl ⟨rfl, rfl⟩, hB.1, ?_, ?_, ?_, ?_, ?_, k 20 _ rfl, fun i _ => rfl, ?_, ⟨Or.inl rfl, Or.inl rfl, Or.inl rfl, Or.inl rfl⟩, ?_, ?_⟩, hw⟩
  · exact ⟨0, -1, _, _, _, ⟨k 0 _ rfl, k 1 _ rfl, k 2 _ rfl, k 3 _ rfl⟩, fun i hi => absurd hi (Nat.not_lt_zero _)⟩
  · exact ⟨k 4 _ rfl, ⟨_, k 5 _ rfl, fun i hi => absurd hi (Nat.not_lt_zero _)⟩, ⟨_, k 6 _ rfl, fun i hi => absurd hi (Nat.not_lt_zero _)⟩, ⟨_, k 7 _ rfl, fun i hi => absurd hi (Nat.not_lt_zero _)⟩, ⟨_, k 8 _ rfl, fun i hi => absurd hi (Nat.not_lt_zero _)⟩, ⟨_, k 9 _ rfl, fun i hi => absurd hi (Nat.not_lt_zero _)⟩⟩
  · exact ⟨k 10 _ rfl, ⟨_, k 11 _ rfl, fun i hi => absurd hi (Nat.not_lt_zero _)⟩, ⟨_, k 12 _ rfl, fun i hi => absurd hi (Nat.not_lt_zero _)⟩, ⟨_, k 13 _ rfl, fun i hi => absurd hi (Nat.not_lt_zero _)⟩, ⟨_, k 14 _ rfl, fun i hi => absurd hi (Nat.not_lt_zero _)⟩, ⟨_, k 15 _ rfl, fun i hi => absurd hi (Nat.not_lt_zero _)⟩⟩
  · exact ⟨S0, B0, ⟨k 16 _ rfl, k 17 _ rfl, k 18 _ rfl⟩, (hR hS0 hB0).1, (hR hS0 hB0).2⟩
  · exact ⟨_, k 19 _ rfl, rfl, rfl⟩
  · exact ⟨k 21 _ rfl, k 22 _ rfl, k 23 _ rfl, k 24 _ rfl, k 25 _ rfl, k 26 _ rfl⟩
  · exact ⟨⟨0, 0, S1, B1, k 27 _ rfl, k 28 _ rfl, k 29 _ rfl⟩, fun hk => absurd (show false = true from hk) (by decide)⟩
  · exact ⟨⟨0, 0, S2, B2, k 30 _ rfl, k 31 _ rfl, k 32 _ rfl⟩, fun hk => absurd (show false = true from hk) (by decide)⟩
end
section
variable {K : zK} {l : Launch} {h : zH}
theorem zWf_b3 {n b x : Nat} (h : b < n) (hx : x < n) : zWf n [(0, .ref b)] [.ref x, .ref b] := zWf_l (Or.inl h) (zWf_s (Or.inl hx) (zWf_s (Or.inl h) zWf_nil))
set_option maxRecDepth 4000 in
theorem r_X5_init (hc : h 0 = .inr (4, [.null, .null, .null, .null, .null, .null, .null, .long 0])) (hw : zWfh 1 h) : zRuns K l 2 mX5_init [.ref 0] 1 h 33 1184 (fun v n' h' => v = none ∧ n' = 34 ∧ cRel h' gZero ∧ zWfh 34 h') := by
  refine zRuns.of (by decide) (Nat.le_of_ble_eq_true rfl) ?_
  have hB := zBl.nil hc hw
  show zGo K l 2 mX5_init 0 [(0, .ref 0)] [] (0 + 1 + ([] : List va_E).length) h _ _ _
  have hb0 : ∀ ar : List va_E, ar.length < 90 → 0 + 1 + ar.length < 1000 := fun ar h => by omega
  refine kX5_init_0 ?_

  refine zb_go (zg_aload_n rfl) rfl ?_
  refine zb_go (zg_objInit woX5 z_oI2 z_oI3 (by decide) (Nat.le_of_ble_eq_true rfl)) rfl ?_
  refine zb_go (zg_aload_n rfl) rfl ?_
  refine zb_newB hB (by exact zLd rfl) (zg_new (N := 6) wnX4 (hb0 _ (Nat.le_of_ble_eq_true rfl)) hB.2.2.2 (zWf_b (Nat.le_of_ble_eq_true rfl)) (Nat.le_of_ble_eq_true rfl) (Nat.le_of_ble_eq_true rfl)) rfl (fun h hB => ?_)
  refine zb_go (zg_dup rfl) rfl ?_
  refine zb_calli (r_X4_init (Nat.le_of_ble_eq_true rfl) (hB.2.1 _ _ (List.getElem?_concat_length ..)) hB.2.2.2) lX5_9 rfl (by decide) (Nat.le_of_ble_eq_true rfl) (Nat.le_of_ble_eq_true rfl) (Nat.le_of_ble_eq_true rfl) (zWf_b3 (Nat.le_of_ble_eq_true rfl) (Nat.le_of_ble_eq_true rfl)) rfl ?_
  rintro n1 h1 ⟨rfl, hB2⟩
  have hB := hB.sub hB2
  clear hB2
  refine zb_setB hB (by first | exact trivial | exact zLt_last | exact zLt_mid | exact Or.inl (by omega) | exact Or.inl (Nat.le_of_ble_eq_true rfl)) (zg_putfield fX5_10 (by first | omega | exact Nat.le_of_ble_eq_true rfl) hB.1 (by exact Nat.le_of_ble_eq_true rfl) (by rfl) (by rfl) (by first | exact Or.inl rfl | exact Or.inr ⟨rfl, by rfl⟩)) rfl (fun h hB => ?_)
  refine zb_go (zg_aload_n rfl) rfl ?_
  refine zb_newB hB (by exact zLd rfl) (zg_new (N := 10) wnX2 (hb0 _ (Nat.le_of_ble_eq_true rfl)) hB.2.2.2 (zWf_b (Nat.le_of_ble_eq_true rfl)) (Nat.le_of_ble_eq_true rfl) (Nat.le_of_ble_eq_true rfl)) rfl (fun h hB => ?_)
  refine zb_go (zg_dup rfl) rfl ?_
  refine zb_calli (r_X2_init (Nat.le_of_ble_eq_true rfl) (hB.2.1 _ _ (List.getElem?_concat_length ..)) hB.2.2.2) lX5_18 rfl (by decide) (Nat.le_of_ble_eq_true rfl) (Nat.le_of_ble_eq_true rfl) (Nat.le_of_ble_eq_true rfl) (zWf_b3 (Nat.le_of_ble_eq_true rfl) (Nat.le_of_ble_eq_true rfl)) rfl ?_
  rintro n1 h1 ⟨rfl, hB2⟩
  have hB := hB.sub hB2
  clear hB2
  refine zb_setB hB (by first | exact trivial | exact zLt_last | exact zLt_mid | exact Or.inl (by omega) | exact Or.inl (Nat.le_of_ble_eq_true rfl)) (zg_putfield fX5_19 (by first | omega | exact Nat.le_of_ble_eq_true rfl) hB.1 (by exact Nat.le_of_ble_eq_true rfl) (by rfl) (by rfl) (by first | exact Or.inl rfl | exact Or.inr ⟨rfl, by rfl⟩)) rfl (fun h hB => ?_)
  refine zb_go (zg_aload_n rfl) rfl ?_
  refine zb_newB hB (by exact zLd rfl) (zg_new (N := 10) wnX2 (hb0 _ (Nat.le_of_ble_eq_true rfl)) hB.2.2.2 (zWf_b (Nat.le_of_ble_eq_true rfl)) (Nat.le_of_ble_eq_true rfl) (Nat.le_of_ble_eq_true rfl)) rfl (fun h hB => ?_)
  refine zb_go (zg_dup rfl) rfl ?_
  refine zb_calli (r_X2_init (Nat.le_of_ble_eq_true rfl) (hB.2.1 _ _ (List.getElem?_concat_length ..)) hB.2.2.2) lX5_18 rfl (by decide) (Nat.le_of_ble_eq_true rfl) (Nat.le_of_ble_eq_true rfl) (Nat.le_of_ble_eq_true rfl) (zWf_b3 (Nat.le_of_ble_eq_true rfl) (Nat.le_of_ble_eq_true rfl)) rfl ?_
  rintro n1 h1 ⟨rfl, hB2⟩
  have hB := hB.sub hB2
  clear hB2
  refine zb_setB hB (by first | exact trivial | exact zLt_last | exact zLt_mid | exact Or.inl (by omega) | exact Or.inl (Nat.le_of_ble_eq_true rfl)) (zg_putfield fX5_23 (by first | omega | exact Nat.le_of_ble_eq_true rfl) hB.1 (by exact Nat.le_of_ble_eq_true rfl) (by rfl) (by rfl) (by first | exact Or.inl rfl | exact Or.inr ⟨rfl, by rfl⟩)) rfl (fun h hB => ?_)
  refine zb_go (zg_aload_n rfl) rfl ?_
  refine zb_newB hB (by exact zLd rfl) (zg_new (N := 4) wnX3 (hb0 _ (Nat.le_of_ble_eq_true rfl)) hB.2.2.2 (zWf_b (Nat.le_of_ble_eq_true rfl)) (Nat.le_of_ble_eq_true rfl) (Nat.le_of_ble_eq_true rfl)) rfl (fun h hB => ?_)
  refine zb_go (zg_dup rfl) rfl ?_
  refine zb_calli (r_X3_init (Nat.le_of_ble_eq_true rfl) (hB.2.1 _ _ (List.getElem?_concat_length ..)) hB.2.2.2) lX5_28 rfl (by decide) (Nat.le_of_ble_eq_true rfl) (Nat.le_of_ble_eq_true rfl) (Nat.le_of_ble_eq_true rfl) (zWf_b3 (Nat.le_of_ble_eq_true rfl) (Nat.le_of_ble_eq_true rfl)) rfl ?_
  rintro n1 h1 ⟨rfl, S0, B0, hS0, hB0, hB2⟩
  have hB := hB.sub hB2
  clear hB2
  refine zb_setB hB (by first | exact trivial | exact zLt_last | exact zLt_mid | exact Or.inl (by omega) | exact Or.inl (Nat.le_of_ble_eq_true rfl)) (zg_putfield fX5_29 (by first | omega | exact Nat.le_of_ble_eq_true rfl) hB.1 (by exact Nat.le_of_ble_eq_true rfl) (by rfl) (by rfl) (by first | exact Or.inl rfl | exact Or.inr ⟨rfl, by rfl⟩)) rfl (fun h hB => ?_)
  refine zb_go (zg_aload_n rfl) rfl ?_
  refine zb_go (zg_iconst 2 (by decide)) rfl ?_
  refine zb_newB hB (by exact fun j a hj => absurd hj (by simp)) (zg_anewarray (N := 2) wqX3 (by decide) (by decide) (by decide) (hb0 _ (Nat.le_of_ble_eq_true rfl)) hB.2.2.2 (zWf_b (Nat.le_of_ble_eq_true rfl)) (Nat.le_of_ble_eq_true rfl) (Nat.le_of_ble_eq_true rfl)) rfl (fun h hB => ?_)
  refine zb_setB hB (by first | exact trivial | exact zLt_last | exact zLt_mid | exact Or.inl (by omega) | exact Or.inl (Nat.le_of_ble_eq_true rfl)) (zg_putfield fX5_33 (by first | omega | exact Nat.le_of_ble_eq_true rfl) hB.1 (by exact Nat.le_of_ble_eq_true rfl) (by rfl) (by rfl) (by first | exact Or.inl rfl | exact Or.inr ⟨rfl, by rfl⟩)) rfl (fun h hB => ?_)
  refine zb_go (zg_aload_n rfl) rfl ?_
  refine zb_go (zg_iconst 2 (by decide)) rfl ?_
  refine zb_newB hB (by exact trivial) (zg_newZ (N := 2) (by decide) (by decide) (by decide) (hb0 _ (Nat.le_of_ble_eq_true rfl)) hB.2.2.2 (zWf_b (Nat.le_of_ble_eq_true rfl)) (Nat.le_of_ble_eq_true rfl) (Nat.le_of_ble_eq_true rfl)) rfl (fun h hB => ?_)
  refine zb_setB hB (by first | exact trivial | exact zLt_last | exact zLt_mid | exact Or.inl (by omega) | exact Or.inl (Nat.le_of_ble_eq_true rfl)) (zg_putfield fX5_37 (by first | omega | exact Nat.le_of_ble_eq_true rfl) hB.1 (by exact Nat.le_of_ble_eq_true rfl) (by rfl) (by rfl) (by first | exact Or.inl rfl | exact Or.inr ⟨rfl, by rfl⟩)) rfl (fun h hB => ?_)
  refine zb_go (zg_aload_n rfl) rfl ?_
  refine zb_newB hB (by exact zLd rfl) (zg_new (N := 17) wnX1 (hb0 _ (Nat.le_of_ble_eq_true rfl)) hB.2.2.2 (zWf_b (Nat.le_of_ble_eq_true rfl)) (Nat.le_of_ble_eq_true rfl) (Nat.le_of_ble_eq_true rfl)) rfl (fun h hB => ?_)
  refine zb_go (zg_dup rfl) rfl ?_
  refine zb_calli (r_X1_init (Nat.le_of_ble_eq_true rfl) (hB.2.1 _ _ (List.getElem?_concat_length ..)) hB.2.2.2) lX5_43 rfl (by decide) (Nat.le_of_ble_eq_true rfl) (Nat.le_of_ble_eq_true rfl) (Nat.le_of_ble_eq_true rfl) (zWf_b3 (Nat.le_of_ble_eq_true rfl) (Nat.le_of_ble_eq_true rfl)) rfl ?_
  rintro n1 h1 ⟨rfl, x1, y1, hB2⟩
  have hB := hB.sub hB2
  clear hB2
  refine zb_setB hB (by first | exact trivial | exact zLt_last | exact zLt_mid | exact Or.inl (by omega) | exact Or.inl (Nat.le_of_ble_eq_true rfl)) (zg_putfield fX5_44 (by first | omega | exact Nat.le_of_ble_eq_true rfl) hB.1 (by exact Nat.le_of_ble_eq_true rfl) (by rfl) (by rfl) (by first | exact Or.inl rfl | exact Or.inr ⟨rfl, by rfl⟩)) rfl (fun h hB => ?_)
  refine zb_go (zg_aload_n rfl) rfl ?_
  refine zb_go (zg_lconst 0 (by decide)) rfl ?_
  refine zb_setB hB (by first | exact trivial | exact zLt_last | exact zLt_mid | exact Or.inl (by omega) | exact Or.inl (Nat.le_of_ble_eq_true rfl)) (zg_putfield fX5_48 (by first | omega | exact Nat.le_of_ble_eq_true rfl) hB.1 (by exact Nat.le_of_ble_eq_true rfl) (by rfl) (by rfl) (by first | exact Or.inl rfl | exact Or.inr ⟨rfl, by rfl⟩)) rfl (fun h hB => ?_)
  refine zb_go (zg_iconst 0 (by decide)) rfl ?_
  refine zb_go (zg_istore_n (by decide)) rfl ?_
  refine zb_out ?_
  exact r_X5_loop hS0 hB0 hB
end
