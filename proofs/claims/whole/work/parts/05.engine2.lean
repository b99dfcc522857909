/-! THE ENGINE, second part: constructors, new cells, arraycopy -/
theorem zg_objInit {K : zK} {l : Launch} {d : Nat} {M : zM} {pc : Nat} {ls : List (Nat × Value)} {st : List Value} {n : Nat} {h : zH} {mc ms : Nat} {Q : zQ} {idx b : Nat} (h1 : Cond.methodLink M.1.cls idx objectInit ∈ z_all) (h2 : Cond.instanceMethod objectInit ∈ z_all) (h3 : Cond.code objectInit ⟨#[0xb1]⟩ 1 none ∈ z_all) (hd1 : 1 ≤ d) (hrest : (st.map fun v => v.category).sum ≤ 8) (hd : decode M.2.1 pc = .ok (.invokespecial idx, 3)) (kk : zGo K l d M (pc + 3) ls st n h mc ms Q) : zGo K l d M pc ls (.ref b :: st) n h mc ms Q := by
  intro p e R s m args below meth c A n0 ad0 ad H locs cells slots MC MS lsA C D
  have k2 := kk p e R s m args below meth c A n0 ad0 ad H locs cells slots MC MS lsA C D
  obtain ⟨C1, C2, C3, C4, C5, C6, C7, C8, C9, C10, C11, C12, C13, C14⟩ := C
  refine W.objInit C1 C2 C5 (C7 _ h1) (C7 _ h2) (C7 _ h3) rfl (by rw [C4]; exact D.2.2.2.2.2.2.2.2.1) rfl hd (by omega) ?_ k2
  have e1 : ((st.map (z_v K ad)).map fun v => v.category) = st.map fun v => v.category := by
    rw [List.map_map]; exact List.map_congr_left (fun v _ => z_v_cat K ad v)
  show 2 * 0 + ((st.map (z_v K ad)).map fun v => v.category).sum + 12 ≤ R.locals
  rw [e1]; omega
def zLe (n : Nat) : va_E → Prop
  | .inr (_, fs) => ∀ v ∈ fs, zLt n v
  | .inl (_, _, .inr (.inr (.inr (.inr f)))) => ∀ (j a : Nat), f j = some a → a < n ∨ 1000 ≤ a
  | _ => True
def zWfh (n : Nat) (h : zH) : Prop := ∀ k, k < n → zLe n (h k)
theorem z_ad_same {K : zK} {ad ad' : Nat → Nat} {n a : Nat} (hv : a < n ∨ 1000 ≤ a) (h : ∀ k, k < n → ad' k = ad k) : z_ad K ad' a = z_ad K ad a := by
  rcases hv with q | q
  · simp only [z_ad, h a q]
  · have q' : ¬ a < 1000 := Nat.not_lt.mpr q
    simp only [z_ad, if_neg q']
theorem z_e_same {K : zK} {ad ad' : Nat → Nat} {n : Nat} {e : va_E} (hv : zLe n e) (h : ∀ k, k < n → ad' k = ad k) : z_e K ad' e = z_e K ad e := by
  rcases e with ⟨t, m, f | f | f | f | f⟩ | ⟨c, fs⟩
  · rfl
  · rfl
  · rfl
  · rfl
  · have e1 : (fun j => (f j).map (z_ad K ad')) = fun j => (f j).map (z_ad K ad) := by
      funext j
      cases hf : f j with
      | none => rfl
      | some a =>
        have q : a < n ∨ 1000 ≤ a := hv j a hf
        simp only [Option.map_some, z_ad_same q h]
    simp only [z_e, e1]
  · have e1 : fs.map (z_v K ad') = fs.map (z_v K ad) := z_lst_same hv h
    simp only [z_e, e1]
theorem z_w_push {K : zK} {ad : Nat → Nat} {n q : Nat} {h : zH} {e : va_E} (hn : n < 1000) (hw : zWfh n h) : z_w K (fun k => if k = n then q else ad k) (n + 1) (z_up h n e) = z_w K ad n h ++ [(q, z_e K (fun k => if k = n then q else ad k) e)] := by
  have hs : ∀ k, k < n → (fun k => if k = n then q else ad k) k = ad k := fun k hk => if_neg (by omega)
  unfold z_w
  rw [List.range_succ, List.map_append]
  congr 1
  · refine List.map_congr_left (fun i hi => ?_)
    have hi : i < n := List.mem_range.mp hi
    rw [z_up_ne (by omega), z_ad_same (Or.inl hi) hs, z_e_same (hw i hi) hs]
  · simp only [List.map_cons, List.map_nil, z_up_self]
    congr 2
    simp [z_ad, hn]
theorem va_RA_inj {U : State} {c1 c2 : ClassId} {ty : FieldType} (h1 : va_RA U c1 ty) (h2 : va_RA U c2 ty) : c1 = c2 := by
  cases ty with
  | object C =>
    obtain ⟨-, -, -, -, -, a⟩ := h1
    obtain ⟨-, -, -, -, -, b⟩ := h2
    exact Option.some.inj (a.symm.trans b)
  | _ => exact Option.some.inj (h1.symm.trans h2)
/-- behind a new cell -/
theorem z_made {K : zK} {l : Launch} {d : Nat} {M : zM} {pc : Nat} {ls : List (Nat × Value)} {st : List Value} {n : Nat} {h : zH} {mc ms N : Nat} {Q : zQ} {e : va_E} {p : Program} {ev : Env} {R : Room} {s : State} {m : MethodId} {args : Array Value} {below : List Frame} {meth : Method} {c : Code} {A : Nat → Prop} {n0 : Nat} {ad0 ad : Nat → Nat} {H H1 : Heap} {locs : List Loc} {cells slots MC MS : Nat} {lsA : Array Slot} {q : Nat} {e' : va_E}
    (C : zC K d M p R s m args meth c A MC MS) (D : zD K M A s n0 ad0 ad n h H locs cells slots mc ms MC MS ls lsA) (hn : n < 1000) (hw : zWfh n h) (hls : zWf n ls st) (hmc : 1 ≤ mc) (hms : N ≤ ms) (he : ∀ ad, z_e K ad e = e') (g1 : va_P K.1 vwCl (z_w K ad n h ++ [(q, e')]) H1) (g2 : va_D A (z_w K ad n h ++ [(q, e')])) (g3 : va_S A s.heap H1 locs)
    (kk : zGo K l d M pc ls (.ref n :: st) (n + 1) (z_up h n e) (mc - 1) (ms - N) Q) : W p l ev R s m args below meth c H1 locs (cells + 1) (slots + N) (MQ below (z_Qc K Q ad0 n0 A) args s MC MS A) (F0 m pc lsA (.ref q :: st.map (z_v K ad))) := by
  obtain ⟨D1, D2, D3, D4, D5, D6, D7, D8, D9⟩ := D
  have hs : ∀ k, k < n → (fun k => if k = n then q else ad k) k = ad k := fun k hk => if_neg (by omega)
  have k2 := kk p ev R s m args below meth c A n0 ad0 (fun k => if k = n then q else ad k) H1 locs (cells + 1) (slots + N) MC MS lsA C ⟨by omega, fun k hk => by rw [hs k (by omega)]; exact D2 k hk, fun q => by omega, by omega, by omega, by rw [z_w_push hn hw, he]; exact g1, by rw [z_w_push hn hw, he]; exact g2, g3, by rw [z_loc_same hls.1 hs]; exact D9⟩
  have e1 : (Value.ref n :: st).map (z_v K (fun k => if k = n then q else ad k)) = .ref q :: st.map (z_v K ad) := by
    rw [List.map_cons, z_lst_same hls.2 hs]
    simp [z_v, z_ad, hn]
  rw [e1] at k2
  exact k2
def zNw (own : String) (idx ci : Nat) (fs : List Value) (N : Nat) : Prop := ∃ q : vw_C, vwCl[ci]? = some q ∧ q.2.2 = N ∧ Cond.classLink own idx q.1 ∈ z_all ∧ Cond.instantiable q.1 q.2.2 ∈ z_all ∧ Cond.initialized q.1 ∈ z_all ∧ (∀ j, j < q.2.2 → defaultValue (z_ty ci j) = vp_V fs j) ∧ ∀ (K : zK) (ad : Nat → Nat), fs.map (z_v K ad) = fs
theorem zg_new {K : zK} {l : Launch} {d : Nat} {M : zM} {pc : Nat} {ls : List (Nat × Value)} {st : List Value} {n : Nat} {h : zH} {mc ms : Nat} {Q : zQ} {idx ci N : Nat} {fs : List Value} (hN : zNw M.1.cls idx ci fs N) (hn : n < 1000) (hw : zWfh n h) (hls : zWf n ls st) (hmc : 1 ≤ mc) (hms : N ≤ ms) (hd : decode M.2.1 pc = .ok (.new idx, 3)) (kk : zGo K l d M (pc + 3) ls (.ref n :: st) (n + 1) (z_up h n (.inr (ci, fs))) (mc - 1) (ms - N) Q) : zGo K l d M pc ls st n h mc ms Q := by
  intro p e R s m args below meth c A n0 ad0 ad H locs cells slots MC MS lsA C D
  have C' := C
  have D' := D
  obtain ⟨C1, C2, C3, C4, C5, C6, C7, C8, C9, C10, C11, C12, C13, C14⟩ := C'
  obtain ⟨D1, D2, D3, D4, D5, D6, D7, D8, D9⟩ := D'
  obtain ⟨q, hq, rfl, w1, w2, w3, hfs, hz⟩ := hN
  obtain ⟨c1, c2, c3⟩ := z_cls hq
  refine va_new (C := q.1) (T := q.2.1) (N := q.2.2) C1 C2 C7 c1 (z_ty ci) c2 C5 (C7 _ w1) (C7 _ w2) (C7 _ w3) C9.1 D6 D7 D8 C10 hq hfs (by omega) (by omega) hd (fun q1 H1 g1 g2 g3 => ?_)
  exact z_made (e := .inr (ci, fs)) C D hn hw hls hmc hms (fun ad => by simp only [z_e, hz]) g1 g2 g3 kk
theorem zg_newarray {K : zK} {l : Launch} {d : Nat} {M : zM} {pc : Nat} {ls : List (Nat × Value)} {st : List Value} {n : Nat} {h : zH} {mc ms : Nat} {Q : zQ} {atype : ArrayType} {t N : Nat} {i : Int32} {ty : FieldType} {a0 : vp_A} (hat : newarray.typeOf atype = ty) (hw0 : Cond.arrayClass (newarray.typeOf atype) ∈ z_all) (ht : ∀ K : zK, (z_tys K)[t]? = some (K.2.1 t, ty)) (ha0 : ∀ cA : ClassId, vp_cell cA a0 = arrV cA N (fun _ => defaultValue ty)) (hz : ∀ (K : zK) (ad : Nat → Nat), z_e K ad (.inl (t, a0)) = .inl (K.2.1 t, a0)) (hi : ¬ i < 0) (hiN : i.toNatClampNeg = N) (hbytes : N * componentBytes ty ≤ 536870912) (hn : n < 1000) (hw : zWfh n h) (hls : zWf n ls st) (hmc : 1 ≤ mc) (hms : N ≤ ms) (hd : decode M.2.1 pc = .ok (.newarray atype, 2)) (kk : zGo K l d M (pc + 2) ls (.ref n :: st) (n + 1) (z_up h n (.inl (t, a0))) (mc - 1) (ms - N) Q) : zGo K l d M pc ls (.int i :: st) n h mc ms Q := by
  intro p e R s m args below meth c A n0 ad0 ad H locs cells slots MC MS lsA C D
  have C' := C
  have D' := D
  obtain ⟨C1, C2, C3, C4, C5, C6, C7, C8, C9, C10, C11, C12, C13, C14⟩ := C'
  obtain ⟨D1, D2, D3, D4, D5, D6, D7, D8, D9⟩ := D'
  refine va_newa C1 C2 (C7 _ hw0) hat C9.1 D6 D7 D8 C10 ha0 hi hiN hbytes (by omega) (by omega) hd (fun q1 cA H1 gK g1 g2 g3 => ?_)
  have e1 : cA = K.2.1 t := by
    have r1 := (gK.2 (z_tys K).length (cA, ty) (by simp)).2
    have r2 := (C9.1.2 t _ (ht K)).2
    exact va_RA_inj r1 r2
  rw [e1] at g1 g2
  exact z_made (e := .inl (t, a0)) C D hn hw hls hmc hms (fun ad => hz K ad) g1 g2 g3 kk
theorem zg_anewarray {K : zK} {l : Launch} {d : Nat} {M : zM} {pc : Nat} {ls : List (Nat × Value)} {st : List Value} {n : Nat} {h : zH} {mc ms : Nat} {Q : zQ} {idx N : Nat} {i : Int32} (hcl : Cond.classLink M.1.cls idx RX3 ∈ z_all) (hi : ¬ i < 0) (hiN : i.toNatClampNeg = N) (hbytes : N * 4 ≤ 536870912) (hn : n < 1000) (hw : zWfh n h) (hls : zWf n ls st) (hmc : 1 ≤ mc) (hms : N ≤ ms) (hd : decode M.2.1 pc = .ok (.anewarray idx, 3)) (kk : zGo K l d M (pc + 3) ls (.ref n :: st) (n + 1) (z_up h n (.inl (4, N, .inr (.inr (.inr (.inr (fun _ => none))))))) (mc - 1) (ms - N) Q) : zGo K l d M pc ls (.int i :: st) n h mc ms Q := by
  intro p e R s m args below meth c A n0 ad0 ad H locs cells slots MC MS lsA C D
  have C' := C
  have D' := D
  obtain ⟨C1, C2, C3, C4, C5, C6, C7, C8, C9, C10, C11, C12, C13, C14⟩ := C'
  obtain ⟨D1, D2, D3, D4, D5, D6, D7, D8, D9⟩ := D'
  refine va_newq C1 C2 C5 (C7 _ hcl) C9.2.2.1.2.2 C9.1 D6 D7 D8 C10 hi hiN hbytes (by omega) (by omega) hd (fun q1 cA H1 gK g1 g2 g3 => ?_)
  have e1 : cA = K.2.1 4 := by
    have r1 := (gK.2 (z_tys K).length (cA, .object RX3) (by simp)).2
    have r2 := (C9.1.2 4 _ (rfl : (z_tys K)[4]? = some (K.2.1 4, .object RX3))).2
    exact va_RA_inj r1 r2
  rw [e1] at g1 g2
  exact z_made (e := .inl (4, N, .inr (.inr (.inr (.inr (fun _ => none)))))) C D hn hw hls hmc hms (fun ad => rfl) g1 g2 g3 kk
theorem zg_aastore {K : zK} {l : Launch} {d : Nat} {M : zM} {pc : Nat} {ls : List (Nat × Value)} {st : List Value} {n : Nat} {h : zH} {mc ms : Nat} {Q : zQ} {a N k x : Nat} {vs : List Value} {f : Nat → Option Nat} {i : Int32} (ha : a < n) (hc : h a = .inl (4, N, .inr (.inr (.inr (.inr f))))) (hi : zIx i N k) (hx : x < n) (hv : h x = .inr (2, vs)) (hd : decode M.2.1 pc = .ok (.aastore, 1)) (kk : zGo K l d M (pc + 1) ls st n (z_up h a (.inl (4, N, .inr (.inr (.inr (.inr (va_up f k (some x)))))))) mc ms Q) : zGo K l d M pc ls (.ref x :: .int i :: .ref a :: st) n h mc ms Q := by
  intro p e R s m args below meth c A n0 ad0 ad H locs cells slots MC MS lsA C D
  have C' := C
  obtain ⟨C1, C2, C3, C4, C5, C6, C7, C8, C9, C10, C11, C12, C13, C14⟩ := C'
  obtain ⟨D1, D2, D3, D4, D5, D6, D7, D8, D9⟩ := D
  obtain ⟨hi1, hi2⟩ := hi
  have e1 : (fun j => (va_up f k (some x) j).map (z_ad K ad)) = va_up (fun j => (f j).map (z_ad K ad)) i.toNatClampNeg (some (z_ad K ad x)) := by
    funext j
    simp only [va_up, hi2]
    split <;> rfl
  refine va_astq (r := (RX3, TX3, 4)) C1 C2 C9.1 D6 D7 D8 a 4 x 2 (z_at ha hc) rfl (z_at hx hv) rfl hi1 hd (fun H1 locs1 g1 g2 g3 => ?_)
  have e2 : z_e K ad (.inl (4, N, .inr (.inr (.inr (.inr (va_up f k (some x))))))) = .inl (K.2.1 4, N, .inr (.inr (.inr (.inr (va_up (fun j => (f j).map (z_ad K ad)) i.toNatClampNeg (some (z_ad K ad x))))))) := by
    simp only [z_e, e1]
  exact kk p e R s m args below meth c A n0 ad0 ad H1 locs1 cells slots MC MS lsA C ⟨D1, D2, D3, D4, D5, z_back (P := fun w => va_P K.1 vwCl w H1) e2 g1, z_back (P := fun w => va_D A w) e2 g2, g3, D9⟩
/-- arraycopy of ints, from a to b -/
theorem zg_copyi {K : zK} {l : Launch} {d : Nat} {M : zM} {pc : Nat} {ls : List (Nat × Value)} {st : List Value} {n : Nat} {h : zH} {mc ms : Nat} {Q : zQ} {idx a b N1 N2 : Nat} {f g : Nat → Int32} {sp dp m0 : Int32} (w1 : Cond.methodLink M.1.cls idx arraycopyName ∈ z_all) (w2 : Cond.native arraycopyName ∈ z_all) (w3 : Cond.static arraycopyName ∈ z_all) (w4 : Cond.initialized "java/lang/System" ∈ z_all) (ha : a < n) (hb : b < n) (hca : h a = .inl (0, N1, .inl f)) (hcb : h b = .inl (0, N2, .inl g)) (h1 : ¬ sp < 0) (h2 : ¬ dp < 0) (h3 : ¬ m0 < 0) (h4 : sp.toNatClampNeg + m0.toNatClampNeg ≤ N1) (h5 : dp.toNatClampNeg + m0.toNatClampNeg ≤ N2) (hd1 : 1 ≤ d) (hrest : (st.map fun v => v.category).sum ≤ 8) (hfr : nativeFrameWords "java/lang/System" "arraycopy" 5 ≤ 40) (hd : decode M.2.1 pc = .ok (.invokestatic idx, 3)) (kk : zGo K l d M (pc + 3) ls st n (z_up h b (.inl (0, N2, .inl (va_cpy f g sp.toNatClampNeg dp.toNatClampNeg m0.toNatClampNeg)))) mc ms Q) : zGo K l d M pc ls (.int m0 :: .int dp :: .ref b :: .int sp :: .ref a :: st) n h mc ms Q := by
  intro p e R s m args below meth c A n0 ad0 ad H locs cells slots MC MS lsA C D
  have C' := C
  obtain ⟨C1, C2, C3, C4, C5, C6, C7, C8, C9, C10, C11, C12, C13, C14⟩ := C'
  obtain ⟨D1, D2, D3, D4, D5, D6, D7, D8, D9⟩ := D
  have e1 : ((st.map (z_v K ad)).map fun v => v.category) = st.map fun v => v.category := by
    rw [List.map_map]; exact List.map_congr_left (fun v _ => z_v_cat K ad v)
  refine va_copyi C1 C2 (by rw [C4]; exact D9.1.symm) C5 (C7 _ w1) (C7 _ w2) (C7 _ w3) (C7 _ w4) C9.1 D6 D7 D8 a b 0 0 (z_at ha hca) (z_at hb hcb) rfl rfl rfl h1 h2 h3 h4 h5 (fun i hi => rfl) (by omega) (by rw [e1]; omega) hd (fun H1 locs1 g1 g2 g3 => ?_)
  exact kk p e R s m args below meth c A n0 ad0 ad H1 locs1 cells slots MC MS lsA C ⟨D1, D2, D3, D4, D5, z_back (P := fun w => va_P K.1 vwCl w H1) rfl g1, z_back (P := fun w => va_D A w) rfl g2, g3, D9⟩
/-- a constructor's call -/
theorem zg_calli {K : zK} {l : Launch} {d : Nat} {M : zM} {pc : Nat} {ls : List (Nat × Value)} {st : List Value} {n : Nat} {h : zH} {mc ms : Nat} {Q : zQ} {d' idx na mc' ms' b : Nat} {M' : zM} {av rest : List Value} {Q' : zQ} (hr : zRuns K l d' M' (.ref b :: av) n h mc' ms' Q') (hm : zMl 2 M.1.cls idx M' na) (hst : st = av.reverse ++ .ref b :: rest) (hna : av.length = na) (hd' : d' + 1 ≤ d) (hrest : (rest.map fun v => v.category).sum ≤ 8) (hb1 : mc' ≤ mc) (hb2 : ms' ≤ ms) (hd : decode M.2.1 pc = .ok (.invokespecial idx, 3))
    (k : ∀ v n' h', Q' v n' h' → (n' = n ∨ zWf n ls rest) ∧ zGo K l d M (pc + 3) ls (v.toList ++ rest) n' h' (mc - mc') (ms - ms') Q) : zGo K l d M pc ls st n h mc ms Q := by
  intro p e R s m args below meth c A n0 ad0 ad H locs cells slots MC MS lsA C D
  subst hst
  have C' := C
  have D' := D
  obtain ⟨C1, C2, C3, C4, C5, C6, C7, C8, C9, C10, C11, C12, C13, C14⟩ := C'
  obtain ⟨D1, D2, D3, D4, D5, D6, D7, D8, D9⟩ := D'
  have m6 : (Cond.methodLink M.1.cls idx M'.1 ∈ z_all ∨ (M.1.cls, idx, M'.1) ∈ z_nest) ∧ Cond.instanceMethod M'.1 ∈ z_all ∧ M'.1.name = "<init>" ∧ M'.2.2.2 = none := hm.2.2.2.2.2
  have hret : M'.2.2.2 = none := m6.2.2.2
  have e1 : ((rest.map (z_v K ad)).map fun v => v.category) = rest.map fun v => v.category := by
    rw [List.map_map]; exact List.map_congr_left (fun v _ => z_v_cat K ad v)
  have hp : PreS s H (z_Pc K ad n h H.size (.ref b :: av)) (.ref (z_ad K ad b) :: av.map (z_v K ad)) := ⟨z_blind, z_pre (av := .ref b :: av) C D⟩
  rcases m6.1 with hl | hl
  · have cb := z_callB (mc' := mc') (ms' := ms') C hm hl hd'
    rw [hret] at cb
    have hrun := va_runI (g := F0 m pc lsA ((av.reverse ++ .ref b :: rest).map (z_v K ad))) (rest := rest.map (z_v K ad)) (cells := cells) (slots := slots) (locs := locs) (below := below) (e := e) (meth := meth) ⟨C1, C2, C4, C5, C7⟩ (hr ad H.size) ⟨cb, m6.2.2.1, C7 _ m6.2.1⟩ hp rfl (by rw [List.length_map]; exact hna) D9.1 (by simp [z_v]) (by
      show 2 * 0 + _ ≤ 8
      rw [e1]; omega) hd ⟨by omega, by omega⟩
    exact z_called C D hb1 hb2 hrun k
  · obtain ⟨m1, m2, m3, m4, m5, -⟩ := hm
    have cb : va_CN R s args M.1.cls idx M'.1 RX5 M'.2.1 M'.2.2.1 M'.2.2.2 (z_ws M') (z_rm d' mc' ms') mc' ms' na := va_cnB na C7 (z_goodIn M' m1) rfl rfl rfl (C9.2.2.1.2.1 _ hl) (C7 _ m2) ⟨m3.1, m3.2, m4⟩ ⟨by show d' + 1 ≤ R.frames; omega, by show 8 + (M'.2.2.1 + 11) + 64 * d' ≤ R.locals; omega⟩
    rw [hret] at cb
    have hrun := va_runIN (g := F0 m pc lsA ((av.reverse ++ .ref b :: rest).map (z_v K ad))) (rest := rest.map (z_v K ad)) (cells := cells) (slots := slots) (locs := locs) (below := below) (e := e) (meth := meth) ⟨C1, C2, C4, C5, C7⟩ (hr ad H.size) ⟨cb, m6.2.2.1, C7 _ m6.2.1⟩ hp rfl (by rw [List.length_map]; exact hna) D9.1 (by simp [z_v]) (by
      show 2 * 0 + _ ≤ 8
      rw [e1]; omega) hd ⟨by omega, by omega⟩
    exact z_called C D hb1 hb2 hrun k
theorem z_oI2 : Cond.instanceMethod objectInit ∈ z_all := z_in (List.mem_of_getElem? (i := 80) (by decide +kernel)) (by decide +kernel)
theorem z_oI3 : Cond.code objectInit ⟨#[0xb1]⟩ 1 none ∈ z_all := z_in (List.mem_of_getElem? (i := 81) (by decide +kernel)) (by decide +kernel)
theorem z_natF : nativeFrameWords "java/lang/System" "arraycopy" 5 ≤ 40 := by decide +kernel
