/-! THE CLAIM OUT OF ONE WALK OF THE LAW'S BODY. Your part is whole_start (and what it stands on); all else here is the same for every law, but numbers. -/
def R_law : String := "HourRingersLaw"
def lw_P (b : Addr) (xs : List Int32) (args : Array Value) (s : State) : Prop := args = #[.ref b] ∧ s.IntsAt b xs ∧ xs.length ≤ 2048 ∧ (Jvm.Cond.and given_1 narrow_1).before args s = true
def lw_Q (_ : Array Value) (s : State) (o : Outcome) (t : State) : Prop := o = .returned (some (.int 1)) ∧ Framed s o t [] 600000 7302250
def lw_Z (below : List Frame) (a : Array Value) (s : State) : State → Prop := fun t => ∃ o, t.status = .running ∧ Ended t below o ∧ lw_Q a s o t
/-- the law's own end, with 1 on the stack, nothing written that was there before, its room as the claim has it -/
theorem lw_ret {p : Program} {l : Launch} {e : Env} {s : State} {m : MethodId} {below : List Frame} {meth : Method} {c : Code} {b : Nat} (hx : p.tables.exec = Jvm.exec) (hb : c.code = code) (hr : meth.sig.returnType = ret) (hlocks : meth.locks = false) {pc : Nat} {H : Heap} {ls : Array Slot} (hdg : decode code pc = .ok (.ireturn, 1)) : W p l e room_1 s m #[Value.ref b] below meth c H [] 600000 7302250 (lw_Z below #[Value.ref b] s) (F0 m pc ls [.int 1]) := by
  intro T hT X
  obtain ⟨fs, hret, hrun, hended, hW, hframe⟩ := X.leave (v := some (.int 1)) (hlocks := hlocks) (fun h => by rw [hr] at h; cases h)
  have hmeth' : T.vm.method? m = some meth := X.method'
  refine ⟨T.setFrames fs, ?_, .returned (some (.int 1)), hrun, hended, rfl, ⟨_, rfl⟩, hW, hframe⟩
  jvm_step X.here [X.here.top, hx, hb, hdg, hmeth', hr, ret, narrow_b1]
  (try refine ⟨rfl, ?_⟩); (try refine ⟨rfl, ?_⟩)
  first | (intro acts; rw [hret _ acts rfl rfl rfl]) | rw [hret _ _ rfl rfl rfl]
  exact Steps.refl _
/-- what holds at the law's entry: the machine, the code, the tables' words (any of lw_tbl by 'hts w (by decide +kernel)'), the script of L ints xs at the cell b, what the Statement gives of the start (any of its parts by flat_of_before) -/
def lw_At (p : Program) (s : State) (m : MethodId) (meth : Method) (c : Code) (b L : Nat) (xs : Nat → Int32) : Prop :=
  p.tables.exec = Jvm.exec ∧ c.code = code ∧ meth.sig.returnType = ret ∧ c.maxLocals = 4 ∧ s.vm.findClass R_law = some m.cls ∧ meth.name = x.name ∧ (∀ w ∈ lw_tbl, w.before #[Value.ref b] s = true) ∧ va_X b L xs s s.heap ∧ b < s.heap.size ∧ meth.locks = false ∧ (Jvm.Cond.and given_1 narrow_1).before #[Value.ref b] s = true
/-- places on cells that were not there bind nothing -/
theorem z_drop {s s' : State} {L : List Loc} {k n : Nat} (h : s.sameButNew s' L k n) (hL : ∀ q ∈ L, s.heap.size ≤ q.base) : s.sameButNew s' [] k n := by
  obtain ⟨h1, h2, h3, h4, h5, h6⟩ := h
  refine ⟨h1, h2, h3, h4, h5, fun a c hc => ?_⟩
  obtain ⟨c', g1, g2, g3, g4⟩ := h6 a c hc
  refine ⟨c', g1, g2, g3, fun i _ => g4 i (fun hm => ?_)⟩
  have b1 : s.heap.size ≤ a := hL _ hm
  have b2 : a < s.heap.size := (Array.getElem?_eq_some_iff.mp hc).1
  exact absurd b2 (Nat.not_lt.mpr b1)
def z_A0 (s : State) : Nat → Prop := fun q => s.heap.size ≤ q
theorem z_arr {args : Array Value} {s : State} {ty : FieldType} (h : (Cond.arrayClass ty).before args s = true) : ∃ cA : ClassId, ArrOfT s cA ty ∧ s.vm.findClass ("[" ++ ty.toString) = some cA := by
  obtain ⟨c, k, comp, h1, h2, h3⟩ := Cond.arrayClass_spec (args := args) (first := s) (o := none) (s := s) (idx := []) h
  exact ⟨c, fun n z => ⟨fun _ q => (by cases q), k, h2, comp, h3⟩, h1⟩
theorem z_arrq {args : Array Value} {s : State} {C : String} (h : (Cond.arrayOver (.object C)).before args s = true) : ∃ cA : ClassId, ArrOfT s cA (.object C) ∧ va_RA s cA (.object C) := by
  obtain ⟨comp, c, k, h1, h2, h3, h4, h5⟩ := Cond.arrayOver_spec (args := args) (first := s) (o := none) (s := s) (idx := []) h
  exact ⟨c, fun n z => ⟨fun _ q => (by cases q), k, h3, comp, h4⟩, k, comp, h3, h4, h1, h5⟩
set_option maxHeartbeats 4000000 in
set_option maxRecDepth 10000 in
theorem z_strs {s : State} {b : Nat} (hgv : (Jvm.Cond.and given_1 narrow_1).before #[Value.ref b] s = true) : ∃ adK adV : Nat → Nat, vk_S 5 z_len z_byt adK adV (z_A0 s) s s.heap ∧ ∀ i : Nat, i < 5 → (Term.string RX4 (z_ix.getD i 0)).eval #[Value.ref b] s none [] s = some (.ref (adK i)) := by
  have hs := flat_of_before _ hgv
  exact vk_Sof (tm := fun i => .string RX4 (z_ix.getD i 0)) (fun i hi => match i, hi with | 0, _ => by decide | 1, _ => by decide | 2, _ => by decide | 3, _ => by decide | 4, _ => by decide | _ + 5, hi => absurd hi (by omega)) (fun i hi => match i, hi with | 0, _ => hs _ (by decide +kernel) | 1, _ => hs _ (by decide +kernel) | 2, _ => hs _ (by decide +kernel) | 3, _ => hs _ (by decide +kernel) | 4, _ => hs _ (by decide +kernel) | _ + 5, hi => absurd hi (by omega)) (fun i hi => match i, hi with | 0, _ => hs _ (by decide +kernel) | 1, _ => hs _ (by decide +kernel) | 2, _ => hs _ (by decide +kernel) | 3, _ => hs _ (by decide +kernel) | 4, _ => hs _ (by decide +kernel) | _ + 5, hi => absurd hi (by omega)) (fun i hi => match i, hi with | 0, _ => hs _ (by decide +kernel) | 1, _ => hs _ (by decide +kernel) | 2, _ => hs _ (by decide +kernel) | 3, _ => hs _ (by decide +kernel) | 4, _ => hs _ (by decide +kernel) | _ + 5, hi => absurd hi (by omega)) (fun i hi => match i, hi with | 0, _ => hs _ (by decide +kernel) | 1, _ => hs _ (by decide +kernel) | 2, _ => hs _ (by decide +kernel) | 3, _ => hs _ (by decide +kernel) | 4, _ => hs _ (by decide +kernel) | _ + 5, hi => absurd hi (by omega)) (fun i hi j hj => match i, hi, j, hj with | 0, _, 0, _ => hs _ (by decide +kernel) | 0, _, 1, _ => hs _ (by decide +kernel) | 0, _, 2, _ => hs _ (by decide +kernel) | 0, _, 3, _ => hs _ (by decide +kernel) | 1, _, 0, _ => hs _ (by decide +kernel) | 1, _, 1, _ => hs _ (by decide +kernel) | 1, _, 2, _ => hs _ (by decide +kernel) | 1, _, 3, _ => hs _ (by decide +kernel) | 1, _, 4, _ => hs _ (by decide +kernel) | 1, _, 5, _ => hs _ (by decide +kernel) | 2, _, 0, _ => hs _ (by decide +kernel) | 2, _, 1, _ => hs _ (by decide +kernel) | 2, _, 2, _ => hs _ (by decide +kernel) | 2, _, 3, _ => hs _ (by decide +kernel) | 2, _, 4, _ => hs _ (by decide +kernel) | 3, _, 0, _ => hs _ (by decide +kernel) | 3, _, 1, _ => hs _ (by decide +kernel) | 3, _, 2, _ => hs _ (by decide +kernel) | 3, _, 3, _ => hs _ (by decide +kernel) | 3, _, 4, _ => hs _ (by decide +kernel) | 4, _, 0, _ => hs _ (by decide +kernel) | 4, _, 1, _ => hs _ (by decide +kernel) | 4, _, 2, _ => hs _ (by decide +kernel) | 4, _, 3, _ => hs _ (by decide +kernel) | 0, _, _ + 4, hj => absurd hj (by show ¬ _ + 4 < 4; omega) | 1, _, _ + 6, hj => absurd hj (by show ¬ _ + 6 < 6; omega) | 2, _, _ + 5, hj => absurd hj (by show ¬ _ + 5 < 5; omega) | 3, _, _ + 5, hj => absurd hj (by show ¬ _ + 5 < 5; omega) | 4, _, _ + 4, hj => absurd hj (by show ¬ _ + 4 < 4; omega) | _ + 5, hi, _, _ => absurd hi (by omega)) (fun i j hi hj q => match i, j, hi, hj, q with | 0, 0, _, _, q => absurd rfl q | 0, 1, _, _, q => Or.inl (hs _ (by decide +kernel)) | 0, 2, _, _, q => Or.inl (hs _ (by decide +kernel)) | 0, 3, _, _, q => Or.inl (hs _ (by decide +kernel)) | 0, 4, _, _, q => Or.inl (hs _ (by decide +kernel)) | 1, 0, _, _, q => Or.inr (hs _ (by decide +kernel)) | 1, 1, _, _, q => absurd rfl q | 1, 2, _, _, q => Or.inl (hs _ (by decide +kernel)) | 1, 3, _, _, q => Or.inl (hs _ (by decide +kernel)) | 1, 4, _, _, q => Or.inl (hs _ (by decide +kernel)) | 2, 0, _, _, q => Or.inr (hs _ (by decide +kernel)) | 2, 1, _, _, q => Or.inr (hs _ (by decide +kernel)) | 2, 2, _, _, q => absurd rfl q | 2, 3, _, _, q => Or.inl (hs _ (by decide +kernel)) | 2, 4, _, _, q => Or.inl (hs _ (by decide +kernel)) | 3, 0, _, _, q => Or.inr (hs _ (by decide +kernel)) | 3, 1, _, _, q => Or.inr (hs _ (by decide +kernel)) | 3, 2, _, _, q => Or.inr (hs _ (by decide +kernel)) | 3, 3, _, _, q => absurd rfl q | 3, 4, _, _, q => Or.inl (hs _ (by decide +kernel)) | 4, 0, _, _, q => Or.inr (hs _ (by decide +kernel)) | 4, 1, _, _, q => Or.inr (hs _ (by decide +kernel)) | 4, 2, _, _, q => Or.inr (hs _ (by decide +kernel)) | 4, 3, _, _, q => Or.inr (hs _ (by decide +kernel)) | 4, 4, _, _, q => absurd rfl q | _ + 5, _, hi, _, _ => absurd hi (by omega) | _, _ + 5, _, hj, _ => absurd hj (by omega)) (fun a ha q => absurd q (by unfold z_A0; omega))
theorem z_start {p : Program} {s : State} {m : MethodId} {meth : Method} {c : Code} {b L : Nat} {xs : Nat → Int32} (C0 : lw_At p s m meth c b L xs) : ∃ K : zK, zKok K ∧ K.2.2.2.2.1 = b ∧ K.2.2.2.2.2.1 = L ∧ z_I K (z_A0 s) s s.heap := by
  obtain ⟨hx, hb, hr, hml, hown, hnm, hts, hX, hbl, hlocks, hgv⟩ := id C0
  have hA : ∀ a : Nat, a < s.heap.size → ¬ z_A0 s a := fun a ha q => absurd q (by unfold z_A0; omega)
  have hs := flat_of_before _ hgv
  have hz : ∀ w ∈ z_all, w.before #[Value.ref b] s = true := fun w hw => hts w (List.mem_filter.mp hw).1
  have at' : ∀ {i : Nat} {w : Cond}, lw_tbl[i]? = some w → w.before #[Value.ref b] s = true := fun h => hts _ (List.mem_of_getElem? h)
  obtain ⟨c1, i1, k1⟩ := u_known (C := RX1) (T := TX1) (N := 17) (n := 17) hz z_u1 (at' (i := 200) (by decide +kernel))
  obtain ⟨c2, i2, k2⟩ := u_known (C := RX2) (T := TX2) (N := 10) (n := 10) hz z_u2 (at' (i := 112) (by decide +kernel))
  obtain ⟨c3, i3, k3⟩ := u_known (C := RX3) (T := TX3) (N := 4) (n := 4) hz z_u3 (at' (i := 173) (by decide +kernel))
  obtain ⟨c4, i4, k4⟩ := u_known (C := RX4) (T := TX4) (N := 6) (n := 6) hz z_u4 (at' (i := 83) (by decide +kernel))
  obtain ⟨c5, i5, k5⟩ := u_known (C := RX5) (T := TX5) (N := 8) (n := 8) hz z_u5 (at' (i := 75) (by decide +kernel))
  obtain ⟨c6, i6, k6⟩ := u_known (C := RX6) (T := TX6) (N := 36) (n := 36) hz z_u6 (at' (i := 793) (by decide +kernel))
  obtain ⟨t0, a0, b0⟩ := z_arr (hz _ z_acI)
  obtain ⟨t1, a1, b1⟩ := z_arr (hz _ z_acB)
  obtain ⟨t2, a2, b2⟩ := z_arr (hz _ z_acL)
  obtain ⟨t3, a3, b3⟩ := z_arr (hz _ z_acZ)
  have hov : (Cond.arrayOver (.object RX3)).before #[Value.ref b] s = true := at' (i := 198) (by decide +kernel)
  obtain ⟨t4, a4, b4⟩ := z_arrq hov
  obtain ⟨adK, adV, hS, hev⟩ := z_strs hgv
  have hf : ∀ i : Nat, i < 5 → (fun j : Nat => if j < 100 then adK j else if j < 2000 then adV (j - 100) else j - 2000) i = adK i := fun i hi => if_pos (by omega)
  refine ⟨((fun k => match k with | 0 => c1 | 1 => c2 | 2 => c3 | 3 => c4 | 4 => c5 | _ => c6, fun k => match k with | 0 => i1 | 1 => i2 | 2 => i3 | 3 => i4 | 4 => i5 | _ => i6), (fun k => match k with | 0 => t0 | 1 => t1 | 2 => t2 | 3 => t3 | _ => t4), (fun j => if j < 100 then adK j else if j < 2000 then adV (j - 100) else j - 2000), adV, b, L, xs), ⟨fun k hk => ?_, fun t => ?_⟩, rfl, rfl, ⟨fun k q hq => ?_, fun k q hq => ?_⟩, ⟨fun i hi => ?_, fun i j hi hj e => ?_⟩, ⟨fun i hi => ?_, fun q hq => ?_, hov⟩, ?_, ?_, hX, hbl, hA b hbl⟩
  · show (if 100 + k < 100 then _ else if 100 + k < 2000 then adV (100 + k - 100) else _) = adV k
    rw [if_neg (by omega), if_pos (by omega), Nat.add_sub_cancel_left]
  · show (if 2000 + t < 100 then _ else if 2000 + t < 2000 then _ else 2000 + t - 2000) = t
    rw [if_neg (by omega), if_neg (by omega), Nat.add_sub_cancel_left]
  · match k, hq with
    | 0, hq => cases hq; exact k1
    | 1, hq => cases hq; exact k2
    | 2, hq => cases hq; exact k3
    | 3, hq => cases hq; exact k4
    | 4, hq => cases hq; exact k5
    | 5, hq => cases hq; exact k6
    | k + 6, hq => simp [vwCl] at hq
  · match k, hq with
    | 0, hq => cases hq; exact ⟨a0, b0⟩
    | 1, hq => cases hq; exact ⟨a1, b1⟩
    | 2, hq => cases hq; exact ⟨a2, b2⟩
    | 3, hq => cases hq; exact ⟨a3, b3⟩
    | 4, hq => cases hq; exact ⟨a4, b4⟩
    | k + 5, hq => simp [z_tys] at hq
  · have := hS.1 i hi
    rw [← hf i hi] at this
    exact this
  · exact hS.2 i j hi hj (by rw [← hf i hi, ← hf j hj]; exact e)
  · have := hev i hi
    rw [← hf i hi] at this
    match i, hi, this with
    | 0, _, q => exact vk_R.of (at' (i := 328) (by decide +kernel)) q
    | 1, _, q => exact vk_R.of (at' (i := 329) (by decide +kernel)) q
    | 2, _, q => exact vk_R.of (at' (i := 330) (by decide +kernel)) q
    | 3, _, q => exact vk_R.of (at' (i := 331) (by decide +kernel)) q
    | 4, _, q => exact vk_R.of (at' (i := 332) (by decide +kernel)) q
    | _ + 5, hi, _ => exact absurd hi (by omega)
  · simp only [z_nest, List.mem_cons, List.not_mem_nil, or_false] at hq
    rcases hq with rfl | rfl | rfl
    · exact va_Nw.of rfl (at' (i := 84) (by decide +kernel))
    · exact va_Nw.of rfl (at' (i := 113) (by decide +kernel))
    · exact va_Nw.of rfl (at' (i := 201) (by decide +kernel))
  · exact va_Zof (at' (i := 346) (by decide +kernel)) (at' (i := 66) (by decide +kernel)) (va_eqi (hs _ (by decide +kernel))) hA
  · exact va_Zqof (at' (i := 362) (by decide +kernel)) (at' (i := 68) (by decide +kernel)) (hs _ (by decide +kernel)) hA
/-- from the entry, for every script of at most 2048 ints, the law comes to its end with true -/
theorem whole_start {p : Program} {e : Env} {s : State} {m : MethodId} {below : List Frame} {meth : Method} {c : Code} (l : Launch) (hflags : l.flags = flags0) {b L : Nat} {xs : Nat → Int32} (hL : L ≤ 2048) (C0 : lw_At p s m meth c b L xs) : W p l e room_1 s m #[Value.ref b] below meth c s.heap [] 0 0 (lw_Z below #[Value.ref b] s) (entryFrame m ([Value.ref b] : List Value).toArray 4) := by
  obtain ⟨K, hK, eb, eL, hI⟩ := z_start C0
  obtain ⟨hx, hb, hr, hml, hown, hnm, hts, hX, hbl, hlocks, hgv⟩ := C0
  have hz : ∀ w ∈ z_all, w.before #[Value.ref b] s = true := fun w hw => hts w (List.mem_filter.mp hw).1
  rw [lg_entry_eq]
  have hl := lv_entry ([.ref b]) (n := 4) (Nat.le_of_ble_eq_true rfl)
  have ez : z_v K (fun _ => 0) (.ref 2000) = .ref b := by
    show Value.ref K.2.2.2.2.1 = _
    rw [eb]
  have hl2 : lv_has ((lg_sl [.ref b] ++ List.replicate (4 - (lg_sl [.ref b]).length) Slot.unset).toArray) 4 ([((0 : Nat), Value.ref 2000)].map (fun q => (q.1, z_v K (fun _ => 0) q.2))) := by
    show lv_has _ 4 [(0, z_v K (fun _ => 0) (.ref 2000))]
    rw [ez]; exact hl
  have go := r_L_law (l := l) (h := fun _ => .inr (0, [])) hK (by rw [eL]; exact hL) (fun v _ _ => v = some (.int 1)) (fun _ _ => rfl) p e room_1 s m #[Value.ref b] below meth c (z_A0 s) 0 (fun _ => 0) (fun _ => 0) s.heap [] 0 0 600000 7302250 _
    ⟨hx, hb, hr, hml, hown, hnm, hz, hlocks, hI, fun q h => h, by decide, by decide, Nat.le_refl _, Nat.le_refl _⟩
    ⟨Nat.le_refl _, fun _ h => absurd h (Nat.not_lt_zero _), fun _ => rfl, by decide, by decide, fun k q hq => by simp [z_w] at hq, ⟨fun i j p q hi => by simp [z_w] at hi, fun k q hq => by simp [z_w] at hq⟩, va_S.rf, hl2⟩
  intro T hT X
  obtain ⟨t, a1, o, d1, d2, ⟨⟨v, n', h', ad', rfl, rfl, -⟩, -⟩, Lc, hfe, hfree⟩ := go T hT X
  obtain ⟨f1, f2, f3⟩ := hfe
  exact ⟨t, a1, _, d1, d2, rfl, f1, f2, z_drop f3 hfree⟩
-- ===== YOUR PART ENDS =====
set_option maxHeartbeats 4000000 in
theorem lw_walk (l : Launch) (hflags : l.flags = flags0) (b : Addr) (xs : List Int32) : MetFree l x (headSpec (Jvm.Cond.code x code maxLocals ret :: tables_1) room_1) (lw_P b xs) (fun _ _ _ _ _ => True) lw_Q := by
  refine MetFree.of_bodyS (code := code) (maxLocals := maxLocals) (ret := ret) (by decide) ?_ ?_
  · intro args s m h hn
    obtain ⟨meth, c, h1, h2, h3, h4, h5, h6, -, -⟩ := Cond.code_spec hn (atoms_spec (ws := Jvm.Cond.code x code maxLocals ret :: tables_1) h _ List.mem_cons_self)
    exact ⟨meth, c, h1, h2, h3, h4, h5, h6⟩
  · intro p e s m args below meth c s₁ B hml0 hP _
    obtain ⟨rfl, hx, hbd, hgv⟩ := hP
    obtain ⟨scr, harrAt, hlist, hof, hsmall⟩ := hx
    obtain ⟨hcb, hkn, -, -⟩ := State.arrayAt?_spec harrAt
    have hown : s.vm.findClass R_law = some m.cls := findClass_of_methodNamed B.named
    have hts0 : ∀ c ∈ (Jvm.Cond.code x code maxLocals ret :: tables_1), c.before #[Value.ref b] s = true := atoms_spec (ws := Jvm.Cond.code x code maxLocals ret :: tables_1) B.pre
    have hts : ∀ w ∈ lw_tbl, w.before #[Value.ref b] s = true := k2_hts_sels lw_privs (fun w hw => hts0 w (List.mem_cons_of_mem _ hw)) lw_privs_ok
    have hml : c.maxLocals = 4 := B.maxLocals_eq (hts0 _ List.mem_cons_self)
    have X₀ : Stand p l e room_1 s m #[Value.ref b] below meth c s₁ [] 0 0 := Stand.of_body B
    have hh0 : s₁.heap = s.heap := by rw [B.state]; rfl
    have hsz : scr.slots.size = xs.length := by rw [← Array.length_toList, hlist, List.length_map]
    have hval : ∀ j : Nat, j < xs.length → scr.slots[j]? = some (.int (xs.getD j 0)) := fun j hj => by
      rw [← Array.getElem?_toList, hlist]
      simp [hj]
    have hbl : b < s.heap.size := (Array.getElem?_eq_some_iff.mp hcb).1
    have hX : va_X b xs.length (fun j => xs.getD j 0) s s.heap := ⟨scr, hcb, hof, hkn, hsz, hval⟩
    have K : W p l e room_1 s m #[Value.ref b] below meth c s₁.heap [] 0 0 (lw_Z below #[Value.ref b] s) (entryFrame m ([Value.ref b] : List Value).toArray 4) := by
      rw [hh0]
      exact whole_start l hflags hbd ⟨B.exec, B.bytes, B.returns, hml, hown, (name_of_methodNamed B.named B.method).1, hts, hX, hbl, B.notSynchronized, hgv⟩
    obtain ⟨t, a1, o, b1, b2, b3⟩ := K s₁ rfl X₀
    exact ⟨t, o, a1, b1, b2, b3⟩
theorem lw_pre_spec {args : Array Value} {s : State} (h : (Jvm.Cond.and given_1 narrow_1).before args s = true) (hr : rest_1_c.before args s = true) : ∃ (b : Addr) (xs : List Int32), lw_P b xs args s := by
  have hs := flat_of_before _ h
  have hq := flat_of_before _ hr
  have hc : (Cond.count 1).before args s = true := hs _ (by decide +kernel)
  have harr : (Cond.arrayOf (.arg 0) .int).before args s = true := hs _ (by decide +kernel)
  have hle : (Cond.le (.length (.arg 0)) (.int 2048)).before args s = true := hs _ (by decide +kernel)
  have hlen : (Cond.isInt (.length (.arg 0))).before args s = true := hq _ (by decide +kernel)
  have hall : (Cond.all (.arg 0) (.isInt (.elem (.arg 0) (.index 0)))).before args s = true := hq _ (by decide +kernel)
  obtain ⟨b, xs, hb, hx⟩ := State.ints_of_pre rfl harr hlen hall
  have hsm : xs.length < 2 ^ 31 := hx.choose_spec.2.2.2
  have hev : (Term.length (.arg 0)).eval args s none [] s = some (.int xs.length.toInt32) := hx.length_eval hb
  have hv := Cond.le_ints hev (show (Term.int 2048).eval args s none [] s = some (.int 2048) from rfl)
  have hd : xs.length.toInt32 ≤ 2048 := by
    simpa [Cond.before, Cond.holds, hv] using hle
  have hN : xs.length ≤ 2048 := (Int32.ofNat_le_ofNat hsm (by decide)).mp (show Int32.ofNat xs.length ≤ Int32.ofNat 2048 from hd)
  exact ⟨b, xs, Cond.one_arg hc (show args[0]? = some (.ref b) from hb), hx, hN, h⟩
theorem lw_comes (l : Launch) (hflags : l.flags = flags0) : Comes l x (Jvm.Cond.code x code maxLocals ret :: tables_1) room_1 (fun tb e args s => Calls_1 tb e args s ∧ rest_1 tb e args s ∧ Pre_1 tb e args s)
    (fun _ _ args s o t => lw_Q args s o t) := by
  intro p e ha hc hk s m args below hf hfit hheap happ hpre
  obtain ⟨b, xs, hP⟩ := lw_pre_spec hpre.2.2 hpre.2.1
  obtain ⟨k, o, h1, h2, h3, hQ⟩ := lw_walk l hflags b xs p e ha hc hk s m args below hf ((Spec.applies_iff_loose hf).mp happ).1 hP trivial
  exact ⟨k, o, h1, h2, h3, hQ⟩
theorem lw_frame {s t : State} {o : Outcome} {args : Array Value} (h : Framed s o t [] 600000 7302250) :
    Framed s o t (fieldLocs frame_1_writes args s ++ arrayLocs frame_1_arrays args s ++ staticLocs frame_1_statics s) 600000 7302250 := h
theorem lw_limb (L : Cond) (hL : ∀ (args : Array Value) (s t : State), L.after args s (.returned (some (.int 1))) t = true) :
    ArmFor flags0 classFile x code maxLocals ret World_1 tables_1 room_1 Calls_1 rest_1 Pre_1
      (fun tb e a s o t => postC L tb e a s o t ∧ Framed s o t (fieldLocs frame_1_writes a s ++ arrayLocs frame_1_arrays a s ++ staticLocs frame_1_statics s) 600000 7302250) := by
  intro l hflags _ _ p e ha hc hk s m args below hf hfit hheap happ hpre
  obtain ⟨k, o, h1, h2, h3, rfl, hF⟩ := lw_comes l hflags p e ha hc hk s m args below hf hfit hheap happ hpre
  exact ⟨k, _, h1, h2, h3, hL args s _, lw_frame hF⟩
theorem i_vc : Claimed_1_1 ∧ Claimed_1_2 := ⟨lw_limb limb_1_1 (fun args s t => by simp [limb_1_1, Cond.after, Cond.holds, Cond.value]), lw_limb limb_1_2 (fun args s t => Cond.after_iff.mpr (by
  first | (rw [show limb_1_2 = Cond.eq .result (.int 1) from rfl, Cond.eq_ints (x := 1) (y := 1) rfl rfl]; simp; done) | (simp [limb_1_2, Cond.value, Term.eval]; done)))⟩
