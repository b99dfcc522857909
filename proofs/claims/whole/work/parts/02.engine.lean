/-! THE ENGINE: a small machine of its own over an abstract heap (cells by numbers 0, 1, ..), each of its steps a row of the kit. -/
abbrev zK : Type := va_G × (Nat → ClassId) × (Nat → Nat) × (Nat → Nat) × Nat × Nat × (Nat → Int32)
abbrev zM : Type := MethodName × ByteArray × Nat × Option FieldType
abbrev zH : Type := Nat → va_E
abbrev zQ : Type := Option Value → Nat → zH → Prop
def z_all : List Cond := lw_tbl.filter goodWord
theorem z_in {w : Cond} (h : w ∈ lw_tbl) (g : goodWord w = true) : w ∈ z_all := List.mem_filter.mpr ⟨h, g⟩
theorem z_good {w : Cond} (h : w ∈ z_all) : goodWord w = true := (List.mem_filter.mp h).2
def z_tys (K : zK) : List (ClassId × FieldType) := [(K.2.1 0, .int), (K.2.1 1, .byte), (K.2.1 2, .long), (K.2.1 3, .boolean), (K.2.1 4, .object RX3)]
def z_ad (K : zK) (ad : Nat → Nat) (a : Nat) : Nat := if a < 1000 then ad a else if a = 2000 then K.2.2.2.2.1 else K.2.2.1 (a - 1000)
def z_v (K : zK) (ad : Nat → Nat) : Value → Value
  | .ref a => .ref (z_ad K ad a)
  | v => v
def z_e (K : zK) (ad : Nat → Nat) : va_E → va_E
  | .inl (t, n, .inr (.inr (.inr (.inr f)))) => .inl (K.2.1 t, n, .inr (.inr (.inr (.inr (fun j => (f j).map (z_ad K ad))))))
  | .inl (t, x) => .inl (K.2.1 t, x)
  | .inr (c, fs) => .inr (c, fs.map (z_v K ad))
def z_w (K : zK) (ad : Nat → Nat) (n : Nat) (h : zH) : va_W := (List.range n).map (fun i => (z_ad K ad i, z_e K ad (h i)))
def z_up (h : zH) (k : Nat) (e : va_E) : zH := fun j => if j = k then e else h j
theorem z_up_self (h : zH) (k : Nat) (e : va_E) : z_up h k e k = e := if_pos rfl
theorem z_up_ne {h : zH} {k j : Nat} {e : va_E} (hj : j ≠ k) : z_up h k e j = h j := if_neg hj
theorem z_up_up (h : zH) (k : Nat) (a b : va_E) : z_up (z_up h k a) k b = z_up h k b := by
  funext j
  simp only [z_up]
  split <;> rfl
theorem z_up_id {h : zH} {k : Nat} {e : va_E} (he : h k = e) : z_up h k e = h := by
  funext j
  simp only [z_up]
  split
  · next q => rw [q, he]
  · rfl
theorem z_w_at {K : zK} {ad : Nat → Nat} {n k : Nat} {h : zH} (hk : k < n) : (z_w K ad n h)[k]? = some (z_ad K ad k, z_e K ad (h k)) := by
  simp [z_w, hk]
theorem z_w_inv {K : zK} {ad : Nat → Nat} {n k : Nat} {h : zH} {q : Nat × va_E} (hk : (z_w K ad n h)[k]? = some q) : k < n ∧ q = (z_ad K ad k, z_e K ad (h k)) := by
  have hl : k < n := by
    have := (List.getElem?_eq_some_iff.mp hk).1
    simpa [z_w] using this
  rw [z_w_at hl] at hk
  exact ⟨hl, (Option.some.inj hk).symm⟩
theorem z_w_set {K : zK} {ad : Nat → Nat} {n k : Nat} {h : zH} {e : va_E} : (z_w K ad n h).set k (z_ad K ad k, z_e K ad e) = z_w K ad n (z_up h k e) := by
  apply List.ext_getElem?
  intro j
  by_cases hj : j < n
  · rw [z_w_at hj]
    by_cases hk : j = k
    · subst hk
      rw [List.getElem?_set_self (by simpa [z_w] using hj), z_up_self]
    · rw [List.getElem?_set_ne (Ne.symm hk), z_w_at hj, z_up_ne hk]
  · have l1 : ((z_w K ad n h).set k (z_ad K ad k, z_e K ad e)).length ≤ j := by simp [z_w]; omega
    have l2 : (z_w K ad n (z_up h k e)).length ≤ j := by simp [z_w]; omega
    rw [List.getElem?_eq_none l1, List.getElem?_eq_none l2]
theorem z_v_cat (K : zK) (ad : Nat → Nat) (v : Value) : (z_v K ad v).category = v.category := by cases v <;> rfl
/-- String constants: which entry of the class file, the text, its bytes -/
def z_ix : List Nat := [72, 74, 76, 78, 80]
def z_tx : List String := ["hour", "ringer", "tower", "times", "rest"]
def z_len : List Nat := [4, 6, 5, 5, 4]
def z_byt : List (List Int32) := [[104, 111, 117, 114], [114, 105, 110, 103, 101, 114], [116, 111, 119, 101, 114], [116, 105, 109, 101, 115], [114, 101, 115, 116]]
/-- constructors of nest mates -/
def z_nest : List (String × Nat × MethodName) := [(RX5, 9, yX4_init), (RX5, 18, yX2_init), (RX5, 43, yX1_init)]
/-- what the machine's tables and the cells that nobody writes say: classes, Strings, statics, the script -/
def z_I (K : zK) (A : Nat → Prop) (U : State) (H : Heap) : Prop :=
  va_K K.1 vwCl (z_tys K) U ∧ vk_S 5 z_len z_byt K.2.2.1 K.2.2.2.1 A U H ∧ ((∀ i : Nat, i < 5 → vk_R RX4 (z_ix.getD i 0) (z_tx.getD i "") (K.2.2.1 i) U) ∧ (∀ q ∈ z_nest, va_Nw (.methodLinkNest q.1 q.2.1 q.2.2 RX5) U) ∧ va_AO RX3 U) ∧
  va_Z "java/lang/String" "COMPACT_STRINGS" "Z" (.int 1) A U H ∧ va_Zq "jdk/internal/util/Preconditions" "SIOOBE_FORMATTER" "Ljava/util/function/BiFunction;" A U H ∧
  va_X K.2.2.2.2.1 K.2.2.2.2.2.1 K.2.2.2.2.2.2 U H ∧ K.2.2.2.2.1 < H.size ∧ ¬ A K.2.2.2.2.1
theorem z_I.call {K : zK} {A B : Nat → Prop} {s U : State} {H : Heap} {locs : List Loc} (h : z_I K A s s.heap) (hS : va_S A s.heap H locs) (hB : ∀ q, B q → A q) (hW : s.WarmedH U.vm) : z_I K B U H := by
  obtain ⟨h1, h2, h3, h4, h5, h6, h7, h8⟩ := h
  have al : s.vm.Alike U.vm := hW.alike
  exact ⟨h1.moved al, ((h2.kept hS.2.1).narrow hB).moved al, ⟨fun i hi => (h3.1 i hi).warm hW, fun q hq => (h3.2.1 q hq).warmM hW, h3.2.2.moved al⟩, ((h4.kept hS.2.1).narrow hB).moved al, ((h5.kept hS.2.1).narrow hB).moved al, (h6.kept (hS.2.1 _ h7 h8)).moved al, Nat.lt_of_lt_of_le h7 hS.1, fun q => h8 (hB _ q)⟩
theorem z_I.calling {K : zK} {A : Nat → Prop} {U : State} {H : Heap} (a : Array Value) (g : JFrame) (mk : MethodId) (h : z_I K A U H) : z_I K A (U.calling g mk a) H := by
  obtain ⟨h1, h2, h3, h4, h5, h6, h7, h8⟩ := h
  have al : U.vm.Alike (U.calling g mk a).vm := Vm.Alike.refl U.vm
  exact ⟨h1.moved al, h2.moved al, ⟨fun i hi => (h3.1 i hi).same rfl, fun q hq => va_Nw.same rfl rfl (h3.2.1 q hq), h3.2.2.moved al⟩, h4.moved al, h5.moved al, h6.moved al, h7, h8⟩
def z_ws (M : zM) : List Cond := .code M.1 M.2.1 M.2.2.1 M.2.2.2 :: z_all
def z_rm (d mc ms : Nat) : Room := { frames := d, cells := mc, slots := ms, locals := 64 * d }
def z_Qc (K : zK) (Q : zQ) (ad : Nat → Nat) (n : Nat) (A : Nat → Prop) : Array Value → State → Outcome → State → Prop := fun _ st o t =>
  (∃ (v : Option Value) (n' : Nat) (h' : zH) (ad' : Nat → Nat), o = .returned (v.map (z_v K ad')) ∧ Q v n' h' ∧ n ≤ n' ∧ (∀ k, k < n → ad' k = ad k) ∧ (n' = n → ad' = ad) ∧ va_P K.1 vwCl (z_w K ad' n' h') t.heap ∧ va_D A (z_w K ad' n' h')) ∧ va_F A st t
def z_Pc (K : zK) (ad : Nat → Nat) (n : Nat) (h : zH) (sz : Nat) (av : List Value) : Array Value → State → Prop :=
  va_Pc (av.map (z_v K ad)) (fun U => U.heap.size = sz ∧ va_P K.1 vwCl (z_w K ad n h) U.heap ∧ z_I K (va_A (z_w K ad n h) sz) U U.heap ∧ va_D (fun _ => True) (z_w K ad n h))
/-- method M, called with av over the heap h of n cells, comes back with Q; d: how deep its calls go; mc, ms: what it may make -/
def zRuns (K : zK) (l : Launch) (d : Nat) (M : zM) (av : List Value) (n : Nat) (h : zH) (mc ms : Nat) (Q : zQ) : Prop :=
  ∀ (ad : Nat → Nat) (sz : Nat), Met l M.1 (z_ws M) (z_rm d mc ms) (z_Pc K ad n h sz av) (z_Qc K Q ad n (va_A (z_w K ad n h) sz)) mc ms (va_A (z_w K ad n h) sz)
def zC (K : zK) (d : Nat) (M : zM) (p : Program) (R : Room) (s : State) (m : MethodId) (args : Array Value) (meth : Method) (c : Code) (A : Nat → Prop) (MC MS : Nat) : Prop :=
  p.tables.exec = Jvm.exec ∧ c.code = M.2.1 ∧ meth.sig.returnType = M.2.2.2 ∧ c.maxLocals = M.2.2.1 ∧ s.vm.findClass M.1.cls = some m.cls ∧ meth.name = M.1.name ∧ (∀ w ∈ z_all, w.before args s = true) ∧ meth.locks = false ∧
  z_I K A s s.heap ∧ (∀ q, s.heap.size ≤ q → A q) ∧ d ≤ R.frames ∧ 64 * d ≤ R.locals ∧ MC ≤ R.cells ∧ MS ≤ R.slots
def zD (K : zK) (M : zM) (A : Nat → Prop) (s : State) (n0 : Nat) (ad0 ad : Nat → Nat) (n : Nat) (h : zH) (H : Heap) (locs : List Loc) (cells slots mc ms MC MS : Nat) (ls : List (Nat × Value)) (lsA : Array Slot) : Prop :=
  n0 ≤ n ∧ (∀ k, k < n0 → ad k = ad0 k) ∧ (n = n0 → ad = ad0) ∧ cells + mc ≤ MC ∧ slots + ms ≤ MS ∧ va_P K.1 vwCl (z_w K ad n h) H ∧ va_D A (z_w K ad n h) ∧ va_S A s.heap H locs ∧ lv_has lsA M.2.2.1 (ls.map (fun q => (q.1, z_v K ad q.2)))
/-- M, at pc with locals ls and stack st over the heap h, comes to its end with Q -/
def zGo (K : zK) (l : Launch) (d : Nat) (M : zM) (pc : Nat) (ls : List (Nat × Value)) (st : List Value) (n : Nat) (h : zH) (mc ms : Nat) (Q : zQ) : Prop :=
  ∀ (p : Program) (e : Env) (R : Room) (s : State) (m : MethodId) (args : Array Value) (below : List Frame) (meth : Method) (c : Code) (A : Nat → Prop) (n0 : Nat) (ad0 ad : Nat → Nat) (H : Heap) (locs : List Loc) (cells slots MC MS : Nat) (lsA : Array Slot),
    zC K d M p R s m args meth c A MC MS → zD K M A s n0 ad0 ad n h H locs cells slots mc ms MC MS ls lsA →
    W p l e R s m args below meth c H locs cells slots (MQ below (z_Qc K Q ad0 n0 A) args s MC MS A) (F0 m pc lsA (st.map (z_v K ad)))
def zget : List (Nat × Value) → Nat → Option Value
  | [], _ => none
  | (j, v) :: t, i => if j = i then some v else zget t i
theorem zget_mem {ls : List (Nat × Value)} {i : Nat} {v : Value} (h : zget ls i = some v) : (i, v) ∈ ls := by
  induction ls with
  | nil => cases h
  | cons q t ih =>
    obtain ⟨j, w⟩ := q
    simp only [zget] at h
    split at h
    · next e => cases h; rw [e]; exact List.mem_cons_self
    · exact List.mem_cons_of_mem _ (ih h)
def zins : List (Nat × Value) → Nat → Value → List (Nat × Value)
  | [], i, v => [(i, v)]
  | (j, w) :: t, i, v => if i < j then (i, v) :: (j, w) :: t else (j, w) :: zins t i v
theorem zins_mem {l : List (Nat × Value)} {i : Nat} {v : Value} {q : Nat × Value} (h : q ∈ zins l i v) : q ∈ (i, v) :: l := by
  induction l with
  | nil => exact h
  | cons x t ih =>
    obtain ⟨j, w⟩ := x
    simp only [zins] at h
    split at h
    · exact h
    · rcases List.mem_cons.mp h with h | h
      · exact List.mem_cons_of_mem _ (List.mem_cons.mpr (Or.inl h))
      · rcases List.mem_cons.mp (ih h) with h | h
        · exact List.mem_cons.mpr (Or.inl h)
        · exact List.mem_cons_of_mem _ (List.mem_cons_of_mem _ h)
def zset1 (ls : List (Nat × Value)) (i : Nat) (v : Value) : List (Nat × Value) := zins (ls.filter (fun q => !(q.1 == i) && !(q.1 + 1 == i && q.2.category == 2))) i v
def zset2 (ls : List (Nat × Value)) (i : Nat) (v : Value) : List (Nat × Value) := zins (ls.filter (fun q => !(q.1 == i) && (!(q.1 == i + 1) && !(q.1 + 1 == i && q.2.category == 2)))) i v
theorem z_zset1 {K : zK} {ad : Nat → Nat} {nL i : Nat} {v : Value} {ls : List (Nat × Value)} {lsA : Array Slot} (h : lv_has lsA nL ((i, z_v K ad v) :: (ls.map (fun q => (q.1, z_v K ad q.2))).filter (fun q => !(q.1 == i) && !(q.1 + 1 == i && q.2.category == 2)))) : lv_has lsA nL ((zset1 ls i v).map (fun q => (q.1, z_v K ad q.2))) := by
  refine ⟨h.1, h.2.1, fun q hq => h.2.2 q ?_⟩
  obtain ⟨x, hx, rfl⟩ := List.mem_map.mp hq
  rcases List.mem_cons.mp (zins_mem hx) with rfl | hx
  · exact List.mem_cons_self
  · obtain ⟨h1, h2⟩ := List.mem_filter.mp hx
    refine List.mem_cons_of_mem _ (List.mem_filter.mpr ⟨List.mem_map.mpr ⟨x, h1, rfl⟩, ?_⟩)
    simp only [z_v_cat]
    exact h2
theorem z_zset2 {K : zK} {ad : Nat → Nat} {nL i : Nat} {v : Value} {ls : List (Nat × Value)} {lsA : Array Slot} (h : lv_has lsA nL ((i, z_v K ad v) :: (ls.map (fun q => (q.1, z_v K ad q.2))).filter (fun q => !(q.1 == i) && (!(q.1 == i + 1) && !(q.1 + 1 == i && q.2.category == 2))))) : lv_has lsA nL ((zset2 ls i v).map (fun q => (q.1, z_v K ad q.2))) := by
  refine ⟨h.1, h.2.1, fun q hq => h.2.2 q ?_⟩
  obtain ⟨x, hx, rfl⟩ := List.mem_map.mp hq
  rcases List.mem_cons.mp (zins_mem hx) with rfl | hx
  · exact List.mem_cons_self
  · obtain ⟨h1, h2⟩ := List.mem_filter.mp hx
    refine List.mem_cons_of_mem _ (List.mem_filter.mpr ⟨List.mem_map.mpr ⟨x, h1, rfl⟩, ?_⟩)
    simp only [z_v_cat]
    exact h2
theorem z_lv {K : zK} {ad : Nat → Nat} {nL i : Nat} {v : Value} {ls : List (Nat × Value)} {lsA : Array Slot} (h : lv_has lsA nL (ls.map (fun q => (q.1, z_v K ad q.2)))) (hv : zget ls i = some v) : lsA[i]? = some (.val (z_v K ad v)) :=
  h.2.2 (i, z_v K ad v) (List.mem_map.mpr ⟨(i, v), zget_mem hv, rfl⟩)
theorem z_lvk {K : zK} {ad : Nat → Nat} {i : Nat} {v : Value} {ls : List (Nat × Value)} (hv : zget ls i = some v) : ∃ k : Nat, (ls.map (fun q => (q.1, z_v K ad q.2)))[k]? = some (i, z_v K ad v) :=
  List.getElem?_of_mem (List.mem_map.mpr ⟨(i, v), zget_mem hv, rfl⟩)

theorem zg_iconst {K : zK} {l : Launch} {d : Nat} {M : zM} {pc : Nat} {ls : List (Nat × Value)} {st : List Value} {n : Nat} {h : zH} {mc ms : Nat} {Q : zQ} {i : Int} (v : Int32) (hv : Int32.ofInt i = v) (hd : decode M.2.1 pc = .ok (.iconst i, 1)) (k : zGo K l d M (pc + 1) ls (.int v :: st) n h mc ms Q) : zGo K l d M pc ls (st) n h mc ms Q := by
  intro p e R s m args below meth c A n0 ad0 ad H locs cells slots MC MS lsA C D
  exact lv_iconst C.1 C.2.1 hd hv (k p e R s m args below meth c A n0 ad0 ad H locs cells slots MC MS lsA C D)
theorem zg_bipush {K : zK} {l : Launch} {d : Nat} {M : zM} {pc : Nat} {ls : List (Nat × Value)} {st : List Value} {n : Nat} {h : zH} {mc ms : Nat} {Q : zQ} {i : Int} (v : Int32) (hv : (Int8.ofInt i).toInt32 = v) (hd : decode M.2.1 pc = .ok (.bipush i, 2)) (k : zGo K l d M (pc + 2) ls (.int v :: st) n h mc ms Q) : zGo K l d M pc ls (st) n h mc ms Q := by
  intro p e R s m args below meth c A n0 ad0 ad H locs cells slots MC MS lsA C D
  exact lv_bipush C.1 C.2.1 hd hv (k p e R s m args below meth c A n0 ad0 ad H locs cells slots MC MS lsA C D)
theorem zg_sipush {K : zK} {l : Launch} {d : Nat} {M : zM} {pc : Nat} {ls : List (Nat × Value)} {st : List Value} {n : Nat} {h : zH} {mc ms : Nat} {Q : zQ} {i : Int} (v : Int32) (hv : (Int16.ofInt i).toInt32 = v) (hd : decode M.2.1 pc = .ok (.sipush i, 3)) (k : zGo K l d M (pc + 3) ls (.int v :: st) n h mc ms Q) : zGo K l d M pc ls (st) n h mc ms Q := by
  intro p e R s m args below meth c A n0 ad0 ad H locs cells slots MC MS lsA C D
  exact lv_sipush C.1 C.2.1 hd hv (k p e R s m args below meth c A n0 ad0 ad H locs cells slots MC MS lsA C D)
theorem zg_lconst {K : zK} {l : Launch} {d : Nat} {M : zM} {pc : Nat} {ls : List (Nat × Value)} {st : List Value} {n : Nat} {h : zH} {mc ms : Nat} {Q : zQ} {i : Fin 2} (v : Int64) (hv : Int64.ofNat (i : Nat) = v) (hd : decode M.2.1 pc = .ok (.lconst i, 1)) (k : zGo K l d M (pc + 1) ls (.long v :: st) n h mc ms Q) : zGo K l d M pc ls (st) n h mc ms Q := by
  intro p e R s m args below meth c A n0 ad0 ad H locs cells slots MC MS lsA C D
  exact lv_lconst C.1 C.2.1 hd hv (k p e R s m args below meth c A n0 ad0 ad H locs cells slots MC MS lsA C D)
theorem zg_iload_n {K : zK} {l : Launch} {d : Nat} {M : zM} {pc : Nat} {ls : List (Nat × Value)} {st : List Value} {n : Nat} {h : zH} {mc ms : Nat} {Q : zQ} {i : Fin 4} {x : Int32} (hv : zget ls (i : Nat) = some (.int x)) (hd : decode M.2.1 pc = .ok (.iload_n i, 1)) (k : zGo K l d M (pc + 1) ls (.int x :: st) n h mc ms Q) : zGo K l d M pc ls (st) n h mc ms Q := by
  intro p e R s m args below meth c A n0 ad0 ad H locs cells slots MC MS lsA C D
  exact lv_iload_n C.1 C.2.1 hd rfl (z_lv D.2.2.2.2.2.2.2.2 hv) (k p e R s m args below meth c A n0 ad0 ad H locs cells slots MC MS lsA C D)
theorem zg_iload {K : zK} {l : Launch} {d : Nat} {M : zM} {pc : Nat} {ls : List (Nat × Value)} {st : List Value} {n : Nat} {h : zH} {mc ms : Nat} {Q : zQ} {i : Nat} {x : Int32} (hv : zget ls i = some (.int x)) (hd : decode M.2.1 pc = .ok (.iload i, 2)) (k : zGo K l d M (pc + 2) ls (.int x :: st) n h mc ms Q) : zGo K l d M pc ls (st) n h mc ms Q := by
  intro p e R s m args below meth c A n0 ad0 ad H locs cells slots MC MS lsA C D
  exact lv_iload C.1 C.2.1 hd (z_lv D.2.2.2.2.2.2.2.2 hv) (k p e R s m args below meth c A n0 ad0 ad H locs cells slots MC MS lsA C D)
theorem zg_lload_n {K : zK} {l : Launch} {d : Nat} {M : zM} {pc : Nat} {ls : List (Nat × Value)} {st : List Value} {n : Nat} {h : zH} {mc ms : Nat} {Q : zQ} {i : Fin 4} {x : Int64} (hv : zget ls (i : Nat) = some (.long x)) (hd : decode M.2.1 pc = .ok (.lload_n i, 1)) (k : zGo K l d M (pc + 1) ls (.long x :: st) n h mc ms Q) : zGo K l d M pc ls (st) n h mc ms Q := by
  intro p e R s m args below meth c A n0 ad0 ad H locs cells slots MC MS lsA C D
  exact lv_lload_n C.1 C.2.1 hd rfl (z_lv D.2.2.2.2.2.2.2.2 hv) (k p e R s m args below meth c A n0 ad0 ad H locs cells slots MC MS lsA C D)
theorem zg_lload {K : zK} {l : Launch} {d : Nat} {M : zM} {pc : Nat} {ls : List (Nat × Value)} {st : List Value} {n : Nat} {h : zH} {mc ms : Nat} {Q : zQ} {i : Nat} {x : Int64} (hv : zget ls i = some (.long x)) (hd : decode M.2.1 pc = .ok (.lload i, 2)) (k : zGo K l d M (pc + 2) ls (.long x :: st) n h mc ms Q) : zGo K l d M pc ls (st) n h mc ms Q := by
  intro p e R s m args below meth c A n0 ad0 ad H locs cells slots MC MS lsA C D
  exact lv_lload C.1 C.2.1 hd (z_lv D.2.2.2.2.2.2.2.2 hv) (k p e R s m args below meth c A n0 ad0 ad H locs cells slots MC MS lsA C D)
theorem zg_aload_n {K : zK} {l : Launch} {d : Nat} {M : zM} {pc : Nat} {ls : List (Nat × Value)} {st : List Value} {n : Nat} {h : zH} {mc ms : Nat} {Q : zQ} {i : Fin 4} {x : Nat} (hv : zget ls (i : Nat) = some (.ref x)) (hd : decode M.2.1 pc = .ok (.aload_n i, 1)) (k : zGo K l d M (pc + 1) ls (.ref x :: st) n h mc ms Q) : zGo K l d M pc ls (st) n h mc ms Q := by
  intro p e R s m args below meth c A n0 ad0 ad H locs cells slots MC MS lsA C D
  exact lv_aload_n C.1 C.2.1 hd rfl (z_lv D.2.2.2.2.2.2.2.2 hv) (k p e R s m args below meth c A n0 ad0 ad H locs cells slots MC MS lsA C D)
theorem zg_aload {K : zK} {l : Launch} {d : Nat} {M : zM} {pc : Nat} {ls : List (Nat × Value)} {st : List Value} {n : Nat} {h : zH} {mc ms : Nat} {Q : zQ} {i : Nat} {x : Nat} (hv : zget ls i = some (.ref x)) (hd : decode M.2.1 pc = .ok (.aload i, 2)) (k : zGo K l d M (pc + 2) ls (.ref x :: st) n h mc ms Q) : zGo K l d M pc ls (st) n h mc ms Q := by
  intro p e R s m args below meth c A n0 ad0 ad H locs cells slots MC MS lsA C D
  exact lv_aload C.1 C.2.1 hd (z_lv D.2.2.2.2.2.2.2.2 hv) (k p e R s m args below meth c A n0 ad0 ad H locs cells slots MC MS lsA C D)
theorem zg_iadd {K : zK} {l : Launch} {d : Nat} {M : zM} {pc : Nat} {ls : List (Nat × Value)} {st : List Value} {n : Nat} {h : zH} {mc ms : Nat} {Q : zQ} {x y : Int32}  (hd : decode M.2.1 pc = .ok (.iadd, 1)) (k : zGo K l d M (pc + 1) ls (.int (x + y) :: st) n h mc ms Q) : zGo K l d M pc ls (.int y :: .int x :: st) n h mc ms Q := by
  intro p e R s m args below meth c A n0 ad0 ad H locs cells slots MC MS lsA C D
  exact lv_iadd C.1 C.2.1 hd (k p e R s m args below meth c A n0 ad0 ad H locs cells slots MC MS lsA C D)
theorem zg_isub {K : zK} {l : Launch} {d : Nat} {M : zM} {pc : Nat} {ls : List (Nat × Value)} {st : List Value} {n : Nat} {h : zH} {mc ms : Nat} {Q : zQ} {x y : Int32}  (hd : decode M.2.1 pc = .ok (.isub, 1)) (k : zGo K l d M (pc + 1) ls (.int (x - y) :: st) n h mc ms Q) : zGo K l d M pc ls (.int y :: .int x :: st) n h mc ms Q := by
  intro p e R s m args below meth c A n0 ad0 ad H locs cells slots MC MS lsA C D
  exact lv_isub C.1 C.2.1 hd (k p e R s m args below meth c A n0 ad0 ad H locs cells slots MC MS lsA C D)
theorem zg_imul {K : zK} {l : Launch} {d : Nat} {M : zM} {pc : Nat} {ls : List (Nat × Value)} {st : List Value} {n : Nat} {h : zH} {mc ms : Nat} {Q : zQ} {x y : Int32}  (hd : decode M.2.1 pc = .ok (.imul, 1)) (k : zGo K l d M (pc + 1) ls (.int (x * y) :: st) n h mc ms Q) : zGo K l d M pc ls (.int y :: .int x :: st) n h mc ms Q := by
  intro p e R s m args below meth c A n0 ad0 ad H locs cells slots MC MS lsA C D
  exact lv_imul C.1 C.2.1 hd (k p e R s m args below meth c A n0 ad0 ad H locs cells slots MC MS lsA C D)
theorem zg_iand {K : zK} {l : Launch} {d : Nat} {M : zM} {pc : Nat} {ls : List (Nat × Value)} {st : List Value} {n : Nat} {h : zH} {mc ms : Nat} {Q : zQ} {x y : Int32}  (hd : decode M.2.1 pc = .ok (.iand, 1)) (k : zGo K l d M (pc + 1) ls (.int (x &&& y) :: st) n h mc ms Q) : zGo K l d M pc ls (.int y :: .int x :: st) n h mc ms Q := by
  intro p e R s m args below meth c A n0 ad0 ad H locs cells slots MC MS lsA C D
  exact lv_iand C.1 C.2.1 hd (k p e R s m args below meth c A n0 ad0 ad H locs cells slots MC MS lsA C D)
theorem zg_ior {K : zK} {l : Launch} {d : Nat} {M : zM} {pc : Nat} {ls : List (Nat × Value)} {st : List Value} {n : Nat} {h : zH} {mc ms : Nat} {Q : zQ} {x y : Int32}  (hd : decode M.2.1 pc = .ok (.ior, 1)) (k : zGo K l d M (pc + 1) ls (.int (x ||| y) :: st) n h mc ms Q) : zGo K l d M pc ls (.int y :: .int x :: st) n h mc ms Q := by
  intro p e R s m args below meth c A n0 ad0 ad H locs cells slots MC MS lsA C D
  exact lv_ior C.1 C.2.1 hd (k p e R s m args below meth c A n0 ad0 ad H locs cells slots MC MS lsA C D)
theorem zg_ixor {K : zK} {l : Launch} {d : Nat} {M : zM} {pc : Nat} {ls : List (Nat × Value)} {st : List Value} {n : Nat} {h : zH} {mc ms : Nat} {Q : zQ} {x y : Int32}  (hd : decode M.2.1 pc = .ok (.ixor, 1)) (k : zGo K l d M (pc + 1) ls (.int (x ^^^ y) :: st) n h mc ms Q) : zGo K l d M pc ls (.int y :: .int x :: st) n h mc ms Q := by
  intro p e R s m args below meth c A n0 ad0 ad H locs cells slots MC MS lsA C D
  exact lv_ixor C.1 C.2.1 hd (k p e R s m args below meth c A n0 ad0 ad H locs cells slots MC MS lsA C D)
theorem zg_ishl {K : zK} {l : Launch} {d : Nat} {M : zM} {pc : Nat} {ls : List (Nat × Value)} {st : List Value} {n : Nat} {h : zH} {mc ms : Nat} {Q : zQ} {x y : Int32}  (hd : decode M.2.1 pc = .ok (.ishl, 1)) (k : zGo K l d M (pc + 1) ls (.int (x <<< (y &&& 31)) :: st) n h mc ms Q) : zGo K l d M pc ls (.int y :: .int x :: st) n h mc ms Q := by
  intro p e R s m args below meth c A n0 ad0 ad H locs cells slots MC MS lsA C D
  exact lv_ishl C.1 C.2.1 hd (k p e R s m args below meth c A n0 ad0 ad H locs cells slots MC MS lsA C D)
theorem zg_ishr {K : zK} {l : Launch} {d : Nat} {M : zM} {pc : Nat} {ls : List (Nat × Value)} {st : List Value} {n : Nat} {h : zH} {mc ms : Nat} {Q : zQ} {x y : Int32}  (hd : decode M.2.1 pc = .ok (.ishr, 1)) (k : zGo K l d M (pc + 1) ls (.int (x >>> (y &&& 31)) :: st) n h mc ms Q) : zGo K l d M pc ls (.int y :: .int x :: st) n h mc ms Q := by
  intro p e R s m args below meth c A n0 ad0 ad H locs cells slots MC MS lsA C D
  exact lv_ishr C.1 C.2.1 hd (k p e R s m args below meth c A n0 ad0 ad H locs cells slots MC MS lsA C D)
theorem zg_iushr {K : zK} {l : Launch} {d : Nat} {M : zM} {pc : Nat} {ls : List (Nat × Value)} {st : List Value} {n : Nat} {h : zH} {mc ms : Nat} {Q : zQ} {x y : Int32}  (hd : decode M.2.1 pc = .ok (.iushr, 1)) (k : zGo K l d M (pc + 1) ls (.int (x.toUInt32 >>> (y.toUInt32 &&& Int32.toUInt32 31)).toInt32 :: st) n h mc ms Q) : zGo K l d M pc ls (.int y :: .int x :: st) n h mc ms Q := by
  intro p e R s m args below meth c A n0 ad0 ad H locs cells slots MC MS lsA C D
  exact lv_iushr C.1 C.2.1 hd rfl (k p e R s m args below meth c A n0 ad0 ad H locs cells slots MC MS lsA C D)
theorem zg_idiv {K : zK} {l : Launch} {d : Nat} {M : zM} {pc : Nat} {ls : List (Nat × Value)} {st : List Value} {n : Nat} {h : zH} {mc ms : Nat} {Q : zQ} {x y : Int32} (hne : ¬ y = 0) (hd : decode M.2.1 pc = .ok (.idiv, 1)) (k : zGo K l d M (pc + 1) ls (.int (x / y) :: st) n h mc ms Q) : zGo K l d M pc ls (.int y :: .int x :: st) n h mc ms Q := by
  intro p e R s m args below meth c A n0 ad0 ad H locs cells slots MC MS lsA C D
  exact lv_idiv C.1 C.2.1 hd hne (k p e R s m args below meth c A n0 ad0 ad H locs cells slots MC MS lsA C D)
theorem zg_irem {K : zK} {l : Launch} {d : Nat} {M : zM} {pc : Nat} {ls : List (Nat × Value)} {st : List Value} {n : Nat} {h : zH} {mc ms : Nat} {Q : zQ} {x y : Int32} (hne : ¬ y = 0) (hd : decode M.2.1 pc = .ok (.irem, 1)) (k : zGo K l d M (pc + 1) ls (.int (x - x / y * y) :: st) n h mc ms Q) : zGo K l d M pc ls (.int y :: .int x :: st) n h mc ms Q := by
  intro p e R s m args below meth c A n0 ad0 ad H locs cells slots MC MS lsA C D
  exact lv_irem C.1 C.2.1 hd hne (k p e R s m args below meth c A n0 ad0 ad H locs cells slots MC MS lsA C D)
theorem zg_ineg {K : zK} {l : Launch} {d : Nat} {M : zM} {pc : Nat} {ls : List (Nat × Value)} {st : List Value} {n : Nat} {h : zH} {mc ms : Nat} {Q : zQ} {x : Int32}  (hd : decode M.2.1 pc = .ok (.ineg, 1)) (k : zGo K l d M (pc + 1) ls (.int (-x) :: st) n h mc ms Q) : zGo K l d M pc ls (.int x :: st) n h mc ms Q := by
  intro p e R s m args below meth c A n0 ad0 ad H locs cells slots MC MS lsA C D
  exact lv_ineg C.1 C.2.1 hd (k p e R s m args below meth c A n0 ad0 ad H locs cells slots MC MS lsA C D)
theorem zg_ladd {K : zK} {l : Launch} {d : Nat} {M : zM} {pc : Nat} {ls : List (Nat × Value)} {st : List Value} {n : Nat} {h : zH} {mc ms : Nat} {Q : zQ} {x y : Int64}  (hd : decode M.2.1 pc = .ok (.ladd, 1)) (k : zGo K l d M (pc + 1) ls (.long (x + y) :: st) n h mc ms Q) : zGo K l d M pc ls (.long y :: .long x :: st) n h mc ms Q := by
  intro p e R s m args below meth c A n0 ad0 ad H locs cells slots MC MS lsA C D
  exact lv_ladd C.1 C.2.1 hd (k p e R s m args below meth c A n0 ad0 ad H locs cells slots MC MS lsA C D)
theorem zg_lsub {K : zK} {l : Launch} {d : Nat} {M : zM} {pc : Nat} {ls : List (Nat × Value)} {st : List Value} {n : Nat} {h : zH} {mc ms : Nat} {Q : zQ} {x y : Int64}  (hd : decode M.2.1 pc = .ok (.lsub, 1)) (k : zGo K l d M (pc + 1) ls (.long (x - y) :: st) n h mc ms Q) : zGo K l d M pc ls (.long y :: .long x :: st) n h mc ms Q := by
  intro p e R s m args below meth c A n0 ad0 ad H locs cells slots MC MS lsA C D
  exact lv_lsub C.1 C.2.1 hd (k p e R s m args below meth c A n0 ad0 ad H locs cells slots MC MS lsA C D)
theorem zg_land {K : zK} {l : Launch} {d : Nat} {M : zM} {pc : Nat} {ls : List (Nat × Value)} {st : List Value} {n : Nat} {h : zH} {mc ms : Nat} {Q : zQ} {x y : Int64}  (hd : decode M.2.1 pc = .ok (.land, 1)) (k : zGo K l d M (pc + 1) ls (.long (x &&& y) :: st) n h mc ms Q) : zGo K l d M pc ls (.long y :: .long x :: st) n h mc ms Q := by
  intro p e R s m args below meth c A n0 ad0 ad H locs cells slots MC MS lsA C D
  exact lv_land C.1 C.2.1 hd (k p e R s m args below meth c A n0 ad0 ad H locs cells slots MC MS lsA C D)
theorem zg_lor {K : zK} {l : Launch} {d : Nat} {M : zM} {pc : Nat} {ls : List (Nat × Value)} {st : List Value} {n : Nat} {h : zH} {mc ms : Nat} {Q : zQ} {x y : Int64}  (hd : decode M.2.1 pc = .ok (.lor, 1)) (k : zGo K l d M (pc + 1) ls (.long (x ||| y) :: st) n h mc ms Q) : zGo K l d M pc ls (.long y :: .long x :: st) n h mc ms Q := by
  intro p e R s m args below meth c A n0 ad0 ad H locs cells slots MC MS lsA C D
  exact lv_lor C.1 C.2.1 hd (k p e R s m args below meth c A n0 ad0 ad H locs cells slots MC MS lsA C D)
theorem zg_lshl {K : zK} {l : Launch} {d : Nat} {M : zM} {pc : Nat} {ls : List (Nat × Value)} {st : List Value} {n : Nat} {h : zH} {mc ms : Nat} {Q : zQ} {x : Int64} {y : Int32}  (hd : decode M.2.1 pc = .ok (.lshl, 1)) (k : zGo K l d M (pc + 1) ls (.long (x <<< (y.toInt64 &&& 63)) :: st) n h mc ms Q) : zGo K l d M pc ls (.int y :: .long x :: st) n h mc ms Q := by
  intro p e R s m args below meth c A n0 ad0 ad H locs cells slots MC MS lsA C D
  exact lv_lshl C.1 C.2.1 hd rfl (k p e R s m args below meth c A n0 ad0 ad H locs cells slots MC MS lsA C D)
theorem zg_lshr {K : zK} {l : Launch} {d : Nat} {M : zM} {pc : Nat} {ls : List (Nat × Value)} {st : List Value} {n : Nat} {h : zH} {mc ms : Nat} {Q : zQ} {x : Int64} {y : Int32}  (hd : decode M.2.1 pc = .ok (.lshr, 1)) (k : zGo K l d M (pc + 1) ls (.long (x >>> (y.toInt64 &&& 63)) :: st) n h mc ms Q) : zGo K l d M pc ls (.int y :: .long x :: st) n h mc ms Q := by
  intro p e R s m args below meth c A n0 ad0 ad H locs cells slots MC MS lsA C D
  exact lv_lshr C.1 C.2.1 hd rfl (k p e R s m args below meth c A n0 ad0 ad H locs cells slots MC MS lsA C D)
theorem zg_lushr {K : zK} {l : Launch} {d : Nat} {M : zM} {pc : Nat} {ls : List (Nat × Value)} {st : List Value} {n : Nat} {h : zH} {mc ms : Nat} {Q : zQ} {x : Int64} {y : Int32}  (hd : decode M.2.1 pc = .ok (.lushr, 1)) (k : zGo K l d M (pc + 1) ls (.long (x.toUInt64 >>> (y.toInt64.toUInt64 &&& Int64.toUInt64 63)).toInt64 :: st) n h mc ms Q) : zGo K l d M pc ls (.int y :: .long x :: st) n h mc ms Q := by
  intro p e R s m args below meth c A n0 ad0 ad H locs cells slots MC MS lsA C D
  exact lv_lushr C.1 C.2.1 hd rfl (k p e R s m args below meth c A n0 ad0 ad H locs cells slots MC MS lsA C D)
theorem zg_lcmp {K : zK} {l : Launch} {d : Nat} {M : zM} {pc : Nat} {ls : List (Nat × Value)} {st : List Value} {n : Nat} {h : zH} {mc ms : Nat} {Q : zQ} {x y : Int64}  (hd : decode M.2.1 pc = .ok (.lcmp, 1)) (k : zGo K l d M (pc + 1) ls (.int (lg_cmp x y) :: st) n h mc ms Q) : zGo K l d M pc ls (.long y :: .long x :: st) n h mc ms Q := by
  intro p e R s m args below meth c A n0 ad0 ad H locs cells slots MC MS lsA C D
  exact W.lcmp C.1 C.2.1 hd (k p e R s m args below meth c A n0 ad0 ad H locs cells slots MC MS lsA C D)
theorem zg_i2l {K : zK} {l : Launch} {d : Nat} {M : zM} {pc : Nat} {ls : List (Nat × Value)} {st : List Value} {n : Nat} {h : zH} {mc ms : Nat} {Q : zQ} {x : Int32}  (hd : decode M.2.1 pc = .ok (.i2l, 1)) (k : zGo K l d M (pc + 1) ls (.long x.toInt64 :: st) n h mc ms Q) : zGo K l d M pc ls (.int x :: st) n h mc ms Q := by
  intro p e R s m args below meth c A n0 ad0 ad H locs cells slots MC MS lsA C D
  exact lv_i2l C.1 C.2.1 hd rfl (k p e R s m args below meth c A n0 ad0 ad H locs cells slots MC MS lsA C D)
theorem zg_l2i {K : zK} {l : Launch} {d : Nat} {M : zM} {pc : Nat} {ls : List (Nat × Value)} {st : List Value} {n : Nat} {h : zH} {mc ms : Nat} {Q : zQ} {x : Int64}  (hd : decode M.2.1 pc = .ok (.l2i, 1)) (k : zGo K l d M (pc + 1) ls (.int x.toInt32 :: st) n h mc ms Q) : zGo K l d M pc ls (.long x :: st) n h mc ms Q := by
  intro p e R s m args below meth c A n0 ad0 ad H locs cells slots MC MS lsA C D
  exact lv_l2i C.1 C.2.1 hd rfl (k p e R s m args below meth c A n0 ad0 ad H locs cells slots MC MS lsA C D)
theorem zg_i2b {K : zK} {l : Launch} {d : Nat} {M : zM} {pc : Nat} {ls : List (Nat × Value)} {st : List Value} {n : Nat} {h : zH} {mc ms : Nat} {Q : zQ} {x : Int32}  (hd : decode M.2.1 pc = .ok (.i2b, 1)) (k : zGo K l d M (pc + 1) ls (.int x.toInt8.toInt32 :: st) n h mc ms Q) : zGo K l d M pc ls (.int x :: st) n h mc ms Q := by
  intro p e R s m args below meth c A n0 ad0 ad H locs cells slots MC MS lsA C D
  exact lv_i2b C.1 C.2.1 hd rfl (k p e R s m args below meth c A n0 ad0 ad H locs cells slots MC MS lsA C D)
theorem zg_pop {K : zK} {l : Launch} {d : Nat} {M : zM} {pc : Nat} {ls : List (Nat × Value)} {st : List Value} {n : Nat} {h : zH} {mc ms : Nat} {Q : zQ} {x : Value} (hx : x.category = 1) (hd : decode M.2.1 pc = .ok (.pop, 1)) (k : zGo K l d M (pc + 1) ls (st) n h mc ms Q) : zGo K l d M pc ls (x :: st) n h mc ms Q := by
  intro p e R s m args below meth c A n0 ad0 ad H locs cells slots MC MS lsA C D
  exact lv_pop C.1 C.2.1 hd (by rw [z_v_cat]; exact hx) (k p e R s m args below meth c A n0 ad0 ad H locs cells slots MC MS lsA C D)
theorem zg_dup {K : zK} {l : Launch} {d : Nat} {M : zM} {pc : Nat} {ls : List (Nat × Value)} {st : List Value} {n : Nat} {h : zH} {mc ms : Nat} {Q : zQ} {x : Value} (hx : x.category = 1) (hd : decode M.2.1 pc = .ok (.dup, 1)) (k : zGo K l d M (pc + 1) ls (x :: x :: st) n h mc ms Q) : zGo K l d M pc ls (x :: st) n h mc ms Q := by
  intro p e R s m args below meth c A n0 ad0 ad H locs cells slots MC MS lsA C D
  exact lv_dup C.1 C.2.1 hd (by rw [z_v_cat]; exact hx) (k p e R s m args below meth c A n0 ad0 ad H locs cells slots MC MS lsA C D)
theorem zg_dup2 {K : zK} {l : Launch} {d : Nat} {M : zM} {pc : Nat} {ls : List (Nat × Value)} {st : List Value} {n : Nat} {h : zH} {mc ms : Nat} {Q : zQ} {x y : Value} (hx : x.category = 1) (hy : y.category = 1) (hd : decode M.2.1 pc = .ok (.dup2, 1)) (k : zGo K l d M (pc + 1) ls (x :: y :: x :: y :: st) n h mc ms Q) : zGo K l d M pc ls (x :: y :: st) n h mc ms Q := by
  intro p e R s m args below meth c A n0 ad0 ad H locs cells slots MC MS lsA C D
  exact lv_dup2_11 C.1 C.2.1 hd (by rw [z_v_cat]; exact hx) (by rw [z_v_cat]; exact hy) (k p e R s m args below meth c A n0 ad0 ad H locs cells slots MC MS lsA C D)
theorem zg_istore_n {K : zK} {l : Launch} {d : Nat} {M : zM} {pc : Nat} {ls : List (Nat × Value)} {st : List Value} {n : Nat} {h : zH} {mc ms : Nat} {Q : zQ} {i : Fin 4} {x : Int32} (hi : (i : Nat) < M.2.2.1) (hd : decode M.2.1 pc = .ok (.istore_n i, 1)) (k : zGo K l d M (pc + 1) (zset1 ls (i : Nat) (.int x)) st n h mc ms Q) : zGo K l d M pc ls (.int x :: st) n h mc ms Q := by
  intro p e R s m args below meth c A n0 ad0 ad H locs cells slots MC MS lsA C D
  obtain ⟨D1, D2, D3, D4, D5, D6, D7, D8, D9⟩ := D
  exact lv_istore_n C.1 C.2.1 hd rfl D9 hi rfl (fun ls1 hl1 => k p e R s m args below meth c A n0 ad0 ad H locs cells slots MC MS ls1 C ⟨D1, D2, D3, D4, D5, D6, D7, D8, z_zset1 hl1⟩)
theorem zg_istore {K : zK} {l : Launch} {d : Nat} {M : zM} {pc : Nat} {ls : List (Nat × Value)} {st : List Value} {n : Nat} {h : zH} {mc ms : Nat} {Q : zQ} {i : Nat} {x : Int32} (hi : i < M.2.2.1) (hd : decode M.2.1 pc = .ok (.istore i, 2)) (k : zGo K l d M (pc + 2) (zset1 ls i (.int x)) st n h mc ms Q) : zGo K l d M pc ls (.int x :: st) n h mc ms Q := by
  intro p e R s m args below meth c A n0 ad0 ad H locs cells slots MC MS lsA C D
  obtain ⟨D1, D2, D3, D4, D5, D6, D7, D8, D9⟩ := D
  exact lv_istore C.1 C.2.1 hd D9 hi rfl (fun ls1 hl1 => k p e R s m args below meth c A n0 ad0 ad H locs cells slots MC MS ls1 C ⟨D1, D2, D3, D4, D5, D6, D7, D8, z_zset1 hl1⟩)
theorem zg_astore_n {K : zK} {l : Launch} {d : Nat} {M : zM} {pc : Nat} {ls : List (Nat × Value)} {st : List Value} {n : Nat} {h : zH} {mc ms : Nat} {Q : zQ} {i : Fin 4} {x : Nat} (hi : (i : Nat) < M.2.2.1) (hd : decode M.2.1 pc = .ok (.astore_n i, 1)) (k : zGo K l d M (pc + 1) (zset1 ls (i : Nat) (.ref x)) st n h mc ms Q) : zGo K l d M pc ls (.ref x :: st) n h mc ms Q := by
  intro p e R s m args below meth c A n0 ad0 ad H locs cells slots MC MS lsA C D
  obtain ⟨D1, D2, D3, D4, D5, D6, D7, D8, D9⟩ := D
  exact lv_astore_n C.1 C.2.1 hd rfl D9 hi rfl (fun ls1 hl1 => k p e R s m args below meth c A n0 ad0 ad H locs cells slots MC MS ls1 C ⟨D1, D2, D3, D4, D5, D6, D7, D8, z_zset1 hl1⟩)
theorem zg_astore {K : zK} {l : Launch} {d : Nat} {M : zM} {pc : Nat} {ls : List (Nat × Value)} {st : List Value} {n : Nat} {h : zH} {mc ms : Nat} {Q : zQ} {i : Nat} {x : Nat} (hi : i < M.2.2.1) (hd : decode M.2.1 pc = .ok (.astore i, 2)) (k : zGo K l d M (pc + 2) (zset1 ls i (.ref x)) st n h mc ms Q) : zGo K l d M pc ls (.ref x :: st) n h mc ms Q := by
  intro p e R s m args below meth c A n0 ad0 ad H locs cells slots MC MS lsA C D
  obtain ⟨D1, D2, D3, D4, D5, D6, D7, D8, D9⟩ := D
  exact lv_astore C.1 C.2.1 hd D9 hi rfl (fun ls1 hl1 => k p e R s m args below meth c A n0 ad0 ad H locs cells slots MC MS ls1 C ⟨D1, D2, D3, D4, D5, D6, D7, D8, z_zset1 hl1⟩)
theorem zg_lstore_n {K : zK} {l : Launch} {d : Nat} {M : zM} {pc : Nat} {ls : List (Nat × Value)} {st : List Value} {n : Nat} {h : zH} {mc ms : Nat} {Q : zQ} {i : Fin 4} {x : Int64} (hi : (i : Nat) + 1 < M.2.2.1) (hd : decode M.2.1 pc = .ok (.lstore_n i, 1)) (k : zGo K l d M (pc + 1) (zset2 ls (i : Nat) (.long x)) st n h mc ms Q) : zGo K l d M pc ls (.long x :: st) n h mc ms Q := by
  intro p e R s m args below meth c A n0 ad0 ad H locs cells slots MC MS lsA C D
  obtain ⟨D1, D2, D3, D4, D5, D6, D7, D8, D9⟩ := D
  exact lv_lstore_n C.1 C.2.1 hd rfl D9 hi rfl (fun ls1 hl1 => k p e R s m args below meth c A n0 ad0 ad H locs cells slots MC MS ls1 C ⟨D1, D2, D3, D4, D5, D6, D7, D8, z_zset2 hl1⟩)
theorem zg_lstore {K : zK} {l : Launch} {d : Nat} {M : zM} {pc : Nat} {ls : List (Nat × Value)} {st : List Value} {n : Nat} {h : zH} {mc ms : Nat} {Q : zQ} {i : Nat} {x : Int64} (hi : i + 1 < M.2.2.1) (hd : decode M.2.1 pc = .ok (.lstore i, 2)) (k : zGo K l d M (pc + 2) (zset2 ls i (.long x)) st n h mc ms Q) : zGo K l d M pc ls (.long x :: st) n h mc ms Q := by
  intro p e R s m args below meth c A n0 ad0 ad H locs cells slots MC MS lsA C D
  obtain ⟨D1, D2, D3, D4, D5, D6, D7, D8, D9⟩ := D
  exact lv_lstore C.1 C.2.1 hd D9 hi rfl (fun ls1 hl1 => k p e R s m args below meth c A n0 ad0 ad H locs cells slots MC MS ls1 C ⟨D1, D2, D3, D4, D5, D6, D7, D8, z_zset2 hl1⟩)
theorem zg_iinc {K : zK} {l : Launch} {d : Nat} {M : zM} {pc : Nat} {ls : List (Nat × Value)} {st : List Value} {n : Nat} {h : zH} {mc ms : Nat} {Q : zQ} {i : Nat} {j : Int} {x : Int32} (v : Int32) (hj : Int32.ofInt j = v) (hv : zget ls i = some (.int x)) (hi : i < M.2.2.1) (hd : decode M.2.1 pc = .ok (.iinc i j, 3)) (k : zGo K l d M (pc + 3) (zset1 ls i (.int (x + v))) st n h mc ms Q) : zGo K l d M pc ls st n h mc ms Q := by
  intro p e R s m args below meth c A n0 ad0 ad H locs cells slots MC MS lsA C D
  obtain ⟨D1, D2, D3, D4, D5, D6, D7, D8, D9⟩ := D
  obtain ⟨kk, hk⟩ := z_lvk (K := K) (ad := ad) hv
  exact lv_iinc C.1 C.2.1 hd D9 hk (by rw [hj]) hi rfl (fun ls1 hl1 => k p e R s m args below meth c A n0 ad0 ad H locs cells slots MC MS ls1 C ⟨D1, D2, D3, D4, D5, D6, D7, D8, z_zset1 hl1⟩)
theorem zg_icmp_eq {K : zK} {l : Launch} {d : Nat} {M : zM} {pc : Nat} {ls : List (Nat × Value)} {st : List Value} {n : Nat} {h : zH} {mc ms : Nat} {Q : zQ} {x y : Int32} {off : Int} {tgt : Nat} (ht : (pc : Int) + off = (tgt : Int)) (hd : decode M.2.1 pc = .ok (.if_icmp .eq off, 3)) (kt : x = y → zGo K l d M tgt ls st n h mc ms Q) (kf : ¬ x = y → zGo K l d M (pc + 3) ls st n h mc ms Q) : zGo K l d M pc ls (.int y :: .int x :: st) n h mc ms Q := by
  intro p e R s m args below meth c A n0 ad0 ad H locs cells slots MC MS lsA C D
  exact lv_icmp_eq C.1 C.2.1 hd ht (fun q => kt q p e R s m args below meth c A n0 ad0 ad H locs cells slots MC MS lsA C D) (fun q => kf q p e R s m args below meth c A n0 ad0 ad H locs cells slots MC MS lsA C D)
theorem zg_if_eq {K : zK} {l : Launch} {d : Nat} {M : zM} {pc : Nat} {ls : List (Nat × Value)} {st : List Value} {n : Nat} {h : zH} {mc ms : Nat} {Q : zQ} {x : Int32} {off : Int} {tgt : Nat} (ht : (pc : Int) + off = (tgt : Int)) (hd : decode M.2.1 pc = .ok (.ifCond .eq off, 3)) (kt : x = 0 → zGo K l d M tgt ls st n h mc ms Q) (kf : ¬ x = 0 → zGo K l d M (pc + 3) ls st n h mc ms Q) : zGo K l d M pc ls (.int x :: st) n h mc ms Q := by
  intro p e R s m args below meth c A n0 ad0 ad H locs cells slots MC MS lsA C D
  exact lv_if_eq C.1 C.2.1 hd ht (fun q => kt q p e R s m args below meth c A n0 ad0 ad H locs cells slots MC MS lsA C D) (fun q => kf q p e R s m args below meth c A n0 ad0 ad H locs cells slots MC MS lsA C D)
theorem zg_icmp_ne {K : zK} {l : Launch} {d : Nat} {M : zM} {pc : Nat} {ls : List (Nat × Value)} {st : List Value} {n : Nat} {h : zH} {mc ms : Nat} {Q : zQ} {x y : Int32} {off : Int} {tgt : Nat} (ht : (pc : Int) + off = (tgt : Int)) (hd : decode M.2.1 pc = .ok (.if_icmp .ne off, 3)) (kt : ¬ x = y → zGo K l d M tgt ls st n h mc ms Q) (kf : x = y → zGo K l d M (pc + 3) ls st n h mc ms Q) : zGo K l d M pc ls (.int y :: .int x :: st) n h mc ms Q := by
  intro p e R s m args below meth c A n0 ad0 ad H locs cells slots MC MS lsA C D
  exact lv_icmp_ne C.1 C.2.1 hd ht (fun q => kt q p e R s m args below meth c A n0 ad0 ad H locs cells slots MC MS lsA C D) (fun q => kf q p e R s m args below meth c A n0 ad0 ad H locs cells slots MC MS lsA C D)
theorem zg_if_ne {K : zK} {l : Launch} {d : Nat} {M : zM} {pc : Nat} {ls : List (Nat × Value)} {st : List Value} {n : Nat} {h : zH} {mc ms : Nat} {Q : zQ} {x : Int32} {off : Int} {tgt : Nat} (ht : (pc : Int) + off = (tgt : Int)) (hd : decode M.2.1 pc = .ok (.ifCond .ne off, 3)) (kt : ¬ x = 0 → zGo K l d M tgt ls st n h mc ms Q) (kf : x = 0 → zGo K l d M (pc + 3) ls st n h mc ms Q) : zGo K l d M pc ls (.int x :: st) n h mc ms Q := by
  intro p e R s m args below meth c A n0 ad0 ad H locs cells slots MC MS lsA C D
  exact lv_if_ne C.1 C.2.1 hd ht (fun q => kt q p e R s m args below meth c A n0 ad0 ad H locs cells slots MC MS lsA C D) (fun q => kf q p e R s m args below meth c A n0 ad0 ad H locs cells slots MC MS lsA C D)
theorem zg_icmp_lt {K : zK} {l : Launch} {d : Nat} {M : zM} {pc : Nat} {ls : List (Nat × Value)} {st : List Value} {n : Nat} {h : zH} {mc ms : Nat} {Q : zQ} {x y : Int32} {off : Int} {tgt : Nat} (ht : (pc : Int) + off = (tgt : Int)) (hd : decode M.2.1 pc = .ok (.if_icmp .lt off, 3)) (kt : x < y → zGo K l d M tgt ls st n h mc ms Q) (kf : ¬ x < y → zGo K l d M (pc + 3) ls st n h mc ms Q) : zGo K l d M pc ls (.int y :: .int x :: st) n h mc ms Q := by
  intro p e R s m args below meth c A n0 ad0 ad H locs cells slots MC MS lsA C D
  exact lv_icmp_lt C.1 C.2.1 hd ht (fun q => kt q p e R s m args below meth c A n0 ad0 ad H locs cells slots MC MS lsA C D) (fun q => kf q p e R s m args below meth c A n0 ad0 ad H locs cells slots MC MS lsA C D)
theorem zg_if_lt {K : zK} {l : Launch} {d : Nat} {M : zM} {pc : Nat} {ls : List (Nat × Value)} {st : List Value} {n : Nat} {h : zH} {mc ms : Nat} {Q : zQ} {x : Int32} {off : Int} {tgt : Nat} (ht : (pc : Int) + off = (tgt : Int)) (hd : decode M.2.1 pc = .ok (.ifCond .lt off, 3)) (kt : x < 0 → zGo K l d M tgt ls st n h mc ms Q) (kf : ¬ x < 0 → zGo K l d M (pc + 3) ls st n h mc ms Q) : zGo K l d M pc ls (.int x :: st) n h mc ms Q := by
  intro p e R s m args below meth c A n0 ad0 ad H locs cells slots MC MS lsA C D
  exact lv_if_lt C.1 C.2.1 hd ht (fun q => kt q p e R s m args below meth c A n0 ad0 ad H locs cells slots MC MS lsA C D) (fun q => kf q p e R s m args below meth c A n0 ad0 ad H locs cells slots MC MS lsA C D)
theorem zg_icmp_ge {K : zK} {l : Launch} {d : Nat} {M : zM} {pc : Nat} {ls : List (Nat × Value)} {st : List Value} {n : Nat} {h : zH} {mc ms : Nat} {Q : zQ} {x y : Int32} {off : Int} {tgt : Nat} (ht : (pc : Int) + off = (tgt : Int)) (hd : decode M.2.1 pc = .ok (.if_icmp .ge off, 3)) (kt : y ≤ x → zGo K l d M tgt ls st n h mc ms Q) (kf : ¬ y ≤ x → zGo K l d M (pc + 3) ls st n h mc ms Q) : zGo K l d M pc ls (.int y :: .int x :: st) n h mc ms Q := by
  intro p e R s m args below meth c A n0 ad0 ad H locs cells slots MC MS lsA C D
  exact lv_icmp_ge C.1 C.2.1 hd ht (fun q => kt q p e R s m args below meth c A n0 ad0 ad H locs cells slots MC MS lsA C D) (fun q => kf q p e R s m args below meth c A n0 ad0 ad H locs cells slots MC MS lsA C D)
theorem zg_if_ge {K : zK} {l : Launch} {d : Nat} {M : zM} {pc : Nat} {ls : List (Nat × Value)} {st : List Value} {n : Nat} {h : zH} {mc ms : Nat} {Q : zQ} {x : Int32} {off : Int} {tgt : Nat} (ht : (pc : Int) + off = (tgt : Int)) (hd : decode M.2.1 pc = .ok (.ifCond .ge off, 3)) (kt : 0 ≤ x → zGo K l d M tgt ls st n h mc ms Q) (kf : ¬ 0 ≤ x → zGo K l d M (pc + 3) ls st n h mc ms Q) : zGo K l d M pc ls (.int x :: st) n h mc ms Q := by
  intro p e R s m args below meth c A n0 ad0 ad H locs cells slots MC MS lsA C D
  exact lv_if_ge C.1 C.2.1 hd ht (fun q => kt q p e R s m args below meth c A n0 ad0 ad H locs cells slots MC MS lsA C D) (fun q => kf q p e R s m args below meth c A n0 ad0 ad H locs cells slots MC MS lsA C D)
theorem zg_icmp_gt {K : zK} {l : Launch} {d : Nat} {M : zM} {pc : Nat} {ls : List (Nat × Value)} {st : List Value} {n : Nat} {h : zH} {mc ms : Nat} {Q : zQ} {x y : Int32} {off : Int} {tgt : Nat} (ht : (pc : Int) + off = (tgt : Int)) (hd : decode M.2.1 pc = .ok (.if_icmp .gt off, 3)) (kt : y < x → zGo K l d M tgt ls st n h mc ms Q) (kf : ¬ y < x → zGo K l d M (pc + 3) ls st n h mc ms Q) : zGo K l d M pc ls (.int y :: .int x :: st) n h mc ms Q := by
  intro p e R s m args below meth c A n0 ad0 ad H locs cells slots MC MS lsA C D
  exact lv_icmp_gt C.1 C.2.1 hd ht (fun q => kt q p e R s m args below meth c A n0 ad0 ad H locs cells slots MC MS lsA C D) (fun q => kf q p e R s m args below meth c A n0 ad0 ad H locs cells slots MC MS lsA C D)
theorem zg_if_gt {K : zK} {l : Launch} {d : Nat} {M : zM} {pc : Nat} {ls : List (Nat × Value)} {st : List Value} {n : Nat} {h : zH} {mc ms : Nat} {Q : zQ} {x : Int32} {off : Int} {tgt : Nat} (ht : (pc : Int) + off = (tgt : Int)) (hd : decode M.2.1 pc = .ok (.ifCond .gt off, 3)) (kt : 0 < x → zGo K l d M tgt ls st n h mc ms Q) (kf : ¬ 0 < x → zGo K l d M (pc + 3) ls st n h mc ms Q) : zGo K l d M pc ls (.int x :: st) n h mc ms Q := by
  intro p e R s m args below meth c A n0 ad0 ad H locs cells slots MC MS lsA C D
  exact lv_if_gt C.1 C.2.1 hd ht (fun q => kt q p e R s m args below meth c A n0 ad0 ad H locs cells slots MC MS lsA C D) (fun q => kf q p e R s m args below meth c A n0 ad0 ad H locs cells slots MC MS lsA C D)
theorem zg_icmp_le {K : zK} {l : Launch} {d : Nat} {M : zM} {pc : Nat} {ls : List (Nat × Value)} {st : List Value} {n : Nat} {h : zH} {mc ms : Nat} {Q : zQ} {x y : Int32} {off : Int} {tgt : Nat} (ht : (pc : Int) + off = (tgt : Int)) (hd : decode M.2.1 pc = .ok (.if_icmp .le off, 3)) (kt : x ≤ y → zGo K l d M tgt ls st n h mc ms Q) (kf : ¬ x ≤ y → zGo K l d M (pc + 3) ls st n h mc ms Q) : zGo K l d M pc ls (.int y :: .int x :: st) n h mc ms Q := by
  intro p e R s m args below meth c A n0 ad0 ad H locs cells slots MC MS lsA C D
  exact lv_icmp_le C.1 C.2.1 hd ht (fun q => kt q p e R s m args below meth c A n0 ad0 ad H locs cells slots MC MS lsA C D) (fun q => kf q p e R s m args below meth c A n0 ad0 ad H locs cells slots MC MS lsA C D)
theorem zg_if_le {K : zK} {l : Launch} {d : Nat} {M : zM} {pc : Nat} {ls : List (Nat × Value)} {st : List Value} {n : Nat} {h : zH} {mc ms : Nat} {Q : zQ} {x : Int32} {off : Int} {tgt : Nat} (ht : (pc : Int) + off = (tgt : Int)) (hd : decode M.2.1 pc = .ok (.ifCond .le off, 3)) (kt : x ≤ 0 → zGo K l d M tgt ls st n h mc ms Q) (kf : ¬ x ≤ 0 → zGo K l d M (pc + 3) ls st n h mc ms Q) : zGo K l d M pc ls (.int x :: st) n h mc ms Q := by
  intro p e R s m args below meth c A n0 ad0 ad H locs cells slots MC MS lsA C D
  exact lv_if_le C.1 C.2.1 hd ht (fun q => kt q p e R s m args below meth c A n0 ad0 ad H locs cells slots MC MS lsA C D) (fun q => kf q p e R s m args below meth c A n0 ad0 ad H locs cells slots MC MS lsA C D)
theorem zg_goto {K : zK} {l : Launch} {d : Nat} {M : zM} {pc : Nat} {ls : List (Nat × Value)} {st : List Value} {n : Nat} {h : zH} {mc ms : Nat} {Q : zQ} {off : Int} {tgt : Nat} (ht : (pc : Int) + off = (tgt : Int)) (k : zGo K l d M tgt ls st n h mc ms Q) (hd : decode M.2.1 pc = .ok (.goto off, 3)) : zGo K l d M pc ls st n h mc ms Q := by
  intro p e R s m args below meth c A n0 ad0 ad H locs cells slots MC MS lsA C D
  exact lv_goto C.1 C.2.1 hd ht (k p e R s m args below meth c A n0 ad0 ad H locs cells slots MC MS lsA C D)
theorem zg_sub {K : zK} {l : Launch} {d : Nat} {M : zM} {pc : Nat} {ls : List (Nat × Value)} {st : List Value} {n : Nat} {h : zH} {mc ms : Nat} {Q : zQ} (ls' : List (Nat × Value)) (hs : ∀ q ∈ ls', q ∈ ls) (k : zGo K l d M pc ls' st n h mc ms Q) : zGo K l d M pc ls st n h mc ms Q := by
  intro p e R s m args below meth c A n0 ad0 ad H locs cells slots MC MS lsA C D
  obtain ⟨D1, D2, D3, D4, D5, D6, D7, D8, D9⟩ := D
  refine k p e R s m args below meth c A n0 ad0 ad H locs cells slots MC MS lsA C ⟨D1, D2, D3, D4, D5, D6, D7, D8, D9.1, D9.2.1, fun q hq => D9.2.2 q ?_⟩
  obtain ⟨x, hx, rfl⟩ := List.mem_map.mp hq
  exact List.mem_map.mpr ⟨x, hs x hx, rfl⟩
theorem zg_mono {K : zK} {l : Launch} {d : Nat} {M : zM} {pc : Nat} {ls : List (Nat × Value)} {st : List Value} {n : Nat} {h : zH} {mc ms : Nat} {Q Q' : zQ} (hQ : ∀ v n' h', Q v n' h' → Q' v n' h') (k : zGo K l d M pc ls st n h mc ms Q) : zGo K l d M pc ls st n h mc ms Q' := by
  intro p e R s m args below meth c A n0 ad0 ad H locs cells slots MC MS lsA C D T hT X
  obtain ⟨t, a, o, b1, b2, ⟨⟨v, n', h', ad', q1, q2, q3⟩, b3⟩, b4⟩ := k p e R s m args below meth c A n0 ad0 ad H locs cells slots MC MS lsA C D T hT X
  exact ⟨t, a, o, b1, b2, ⟨⟨v, n', h', ad', q1, hQ _ _ _ q2, q3⟩, b3⟩, b4⟩
/-- ends -/
theorem z_end {K : zK} {Q : zQ} {A : Nat → Prop} {s t : State} {n0 n : Nat} {ad0 ad : Nat → Nat} {h : zH} {H : Heap} {locs : List Loc} {args : Array Value} {v : Option Value} (hQ : Q v n h) (D1 : n0 ≤ n) (D2 : ∀ k, k < n0 → ad k = ad0 k) (D3 : n = n0 → ad = ad0) (D6 : va_P K.1 vwCl (z_w K ad n h) H) (D7 : va_D A (z_w K ad n h)) (D8 : va_S A s.heap H locs) (ht : t.heap = H) : z_Qc K Q ad0 n0 A args s (.returned (v.map (z_v K ad))) t :=
  ⟨⟨v, n, h, ad, rfl, hQ, D1, D2, D3, by rw [ht]; exact D6, D7⟩, D8.F ht⟩
theorem zg_ireturn {K : zK} {l : Launch} {d : Nat} {M : zM} {pc : Nat} {ls : List (Nat × Value)} {n : Nat} {h : zH} {mc ms : Nat} {Q : zQ} {x : Int32} {ty : FieldType} (hr : M.2.2.2 = some ty) (hn : narrow ty (.int x) = .int x) (hQ : Q (some (.int x)) n h) (hd : decode M.2.1 pc = .ok (.ireturn, 1)) : zGo K l d M pc ls [.int x] n h mc ms Q := by
  intro p e R s m args below meth c A n0 ad0 ad H locs cells slots MC MS lsA C D
  obtain ⟨C1, C2, C3, C4, C5, C6, C7, C8, C9, C10, C11, C12, C13, C14⟩ := C
  obtain ⟨D1, D2, D3, D4, D5, D6, D7, D8, D9⟩ := D
  refine W.widen (k := MC) (n := MS) (by omega) (by omega) ?_
  exact W.zret (v := x) C1 C2 (C3.trans hr) hn (fun t ht _ => z_end hQ D1 D2 D3 D6 D7 D8 ht) D8.2.2 hd C8
theorem zg_lreturn {K : zK} {l : Launch} {d : Nat} {M : zM} {pc : Nat} {ls : List (Nat × Value)} {n : Nat} {h : zH} {mc ms : Nat} {Q : zQ} {x : Int64} (hr : M.2.2.2 = some .long) (hQ : Q (some (.long x)) n h) (hd : decode M.2.1 pc = .ok (.lreturn, 1)) : zGo K l d M pc ls [.long x] n h mc ms Q := by
  intro p e R s m args below meth c A n0 ad0 ad H locs cells slots MC MS lsA C D
  obtain ⟨C1, C2, C3, C4, C5, C6, C7, C8, C9, C10, C11, C12, C13, C14⟩ := C
  obtain ⟨D1, D2, D3, D4, D5, D6, D7, D8, D9⟩ := D
  refine W.widen (k := MC) (n := MS) (by omega) (by omega) ?_
  exact W.lret (v := x) C1 C2 (C3.trans hr) (fun t ht _ => z_end hQ D1 D2 D3 D6 D7 D8 ht) D8.2.2 hd C8
theorem zg_areturn {K : zK} {l : Launch} {d : Nat} {M : zM} {pc : Nat} {ls : List (Nat × Value)} {n : Nat} {h : zH} {mc ms : Nat} {Q : zQ} {x : Nat} {ty : FieldType} (hr : M.2.2.2 = some ty) (hrt : (∃ n, ty = .object n) ∨ ∃ t, ty = .array t) (hQ : Q (some (.ref x)) n h) (hd : decode M.2.1 pc = .ok (.areturn, 1)) : zGo K l d M pc ls [.ref x] n h mc ms Q := by
  intro p e R s m args below meth c A n0 ad0 ad H locs cells slots MC MS lsA C D
  obtain ⟨C1, C2, C3, C4, C5, C6, C7, C8, C9, C10, C11, C12, C13, C14⟩ := C
  obtain ⟨D1, D2, D3, D4, D5, D6, D7, D8, D9⟩ := D
  refine W.widen (k := MC) (n := MS) (by omega) (by omega) ?_
  exact W.aret (v := .ref (z_ad K ad x)) C1 C2 (C3.trans hr) hrt (Or.inr ⟨_, rfl⟩) (fun t ht _ => z_end (v := some (.ref x)) hQ D1 D2 D3 D6 D7 D8 ht) D8.2.2 hd C8
theorem zg_return {K : zK} {l : Launch} {d : Nat} {M : zM} {pc : Nat} {ls : List (Nat × Value)} {n : Nat} {h : zH} {mc ms : Nat} {Q : zQ} (hr : M.2.2.2 = none) (hQ : Q none n h) (hd : decode M.2.1 pc = .ok (.return_, 1)) : zGo K l d M pc ls [] n h mc ms Q := by
  intro p e R s m args below meth c A n0 ad0 ad H locs cells slots MC MS lsA C D
  obtain ⟨C1, C2, C3, C4, C5, C6, C7, C8, C9, C10, C11, C12, C13, C14⟩ := C
  obtain ⟨D1, D2, D3, D4, D5, D6, D7, D8, D9⟩ := D
  refine W.widen (k := MC) (n := MS) (by omega) (by omega) ?_
  exact W.vret C1 C2 (C3.trans hr) (fun t ht _ => z_end (v := none) hQ D1 D2 D3 D6 D7 D8 ht) D8.2.2 hd C8
/-- fields: the class's name, the entry of its file, which class of vwCl, which field -/
def zFl (own : String) (idx ci k : Nat) : Prop := ∃ (q : vw_C), vwCl[ci]? = some q ∧ k < q.2.2 ∧ Cond.fieldLink own idx (q.2.1 k).1 (q.2.1 k).2.1 (q.2.1 k).2.2.1 ∈ z_all
/-- the classes: their words, their types -/
def zCls (C : String) (T : u_T) (N : Nat) (ty : Nat → FieldType) : Prop := (∀ w ∈ u_ws C T N, w ∈ z_all) ∧ (∀ k, k < N → parseFieldDescriptor (T k).2.2.1 = some (ty k)) ∧ ∀ a, a < N → ∀ b, b < N → a ≠ b → (T a).2.1 ≠ (T b).2.1
def z_ty : Nat → Nat → FieldType
  | 0 => tyX1
  | 1 => tyX2
  | 2 => tyX3
  | 3 => tyX4
  | 4 => tyX5
  | _ => tyX6

theorem z_u1 : ∀ w ∈ u_ws RX1 TX1 17, w ∈ z_all := by
  have h1 : u_ws RX1 TX1 17 = [224, 226, 228, 230, 232, 234, 236, 238, 240, 242, 244, 246, 248, 250, 252, 254, 256].filterMap (fun i => lw_tbl[i]?) := by decide +kernel
  have h2 : (u_ws RX1 TX1 17).all goodWord = true := by decide +kernel
  intro w hw
  refine z_in ?_ (List.all_eq_true.mp h2 w hw)
  rw [h1] at hw
  obtain ⟨i, -, hi⟩ := List.mem_filterMap.mp hw
  exact List.mem_of_getElem? hi
theorem z_u2 : ∀ w ∈ u_ws RX2 TX2 10, w ∈ z_all := by
  have h1 : u_ws RX2 TX2 10 = [151, 153, 155, 157, 159, 161, 163, 165, 167, 169].filterMap (fun i => lw_tbl[i]?) := by decide +kernel
  have h2 : (u_ws RX2 TX2 10).all goodWord = true := by decide +kernel
  intro w hw
  refine z_in ?_ (List.all_eq_true.mp h2 w hw)
  rw [h1] at hw
  obtain ⟨i, -, hi⟩ := List.mem_filterMap.mp hw
  exact List.mem_of_getElem? hi
theorem z_u3 : ∀ w ∈ u_ws RX3 TX3 4, w ∈ z_all := by
  have h1 : u_ws RX3 TX3 4 = [189, 191, 193, 195].filterMap (fun i => lw_tbl[i]?) := by decide +kernel
  have h2 : (u_ws RX3 TX3 4).all goodWord = true := by decide +kernel
  intro w hw
  refine z_in ?_ (List.all_eq_true.mp h2 w hw)
  rw [h1] at hw
  obtain ⟨i, -, hi⟩ := List.mem_filterMap.mp hw
  exact List.mem_of_getElem? hi
theorem z_u4 : ∀ w ∈ u_ws RX4 TX4 6, w ∈ z_all := by
  have h1 : u_ws RX4 TX4 6 = [95, 97, 99, 101, 103, 105].filterMap (fun i => lw_tbl[i]?) := by decide +kernel
  have h2 : (u_ws RX4 TX4 6).all goodWord = true := by decide +kernel
  intro w hw
  refine z_in ?_ (List.all_eq_true.mp h2 w hw)
  rw [h1] at hw
  obtain ⟨i, -, hi⟩ := List.mem_filterMap.mp hw
  exact List.mem_of_getElem? hi
theorem z_u5 : ∀ w ∈ u_ws RX5 TX5 8, w ∈ z_all := by
  have h1 : u_ws RX5 TX5 8 = [268, 270, 272, 274, 276, 278, 280, 282].filterMap (fun i => lw_tbl[i]?) := by decide +kernel
  have h2 : (u_ws RX5 TX5 8).all goodWord = true := by decide +kernel
  intro w hw
  refine z_in ?_ (List.all_eq_true.mp h2 w hw)
  rw [h1] at hw
  obtain ⟨i, -, hi⟩ := List.mem_filterMap.mp hw
  exact List.mem_of_getElem? hi
theorem z_u6 : ∀ w ∈ u_ws RX6 TX6 36, w ∈ z_all := by
  have h1 : u_ws RX6 TX6 36 = [838, 840, 842, 844, 846, 848, 850, 852, 854, 856, 858, 860, 862, 864, 866, 868, 870, 872, 874, 876, 878, 880, 882, 884, 886, 888, 890, 892, 894, 896, 898, 900, 902, 904, 906, 908].filterMap (fun i => lw_tbl[i]?) := by decide +kernel
  have h2 : (u_ws RX6 TX6 36).all goodWord = true := by decide +kernel
  intro w hw
  refine z_in ?_ (List.all_eq_true.mp h2 w hw)
  rw [h1] at hw
  obtain ⟨i, -, hi⟩ := List.mem_filterMap.mp hw
  exact List.mem_of_getElem? hi

theorem z_cls {ci : Nat} {q : vw_C} (h : vwCl[ci]? = some q) : zCls q.1 q.2.1 q.2.2 (z_ty ci) := by
  match ci, h with
  | 0, h => cases h; exact ⟨z_u1, tyX1_ok, nmX1⟩
  | 1, h => cases h; exact ⟨z_u2, tyX2_ok, nmX2⟩
  | 2, h => cases h; exact ⟨z_u3, tyX3_ok, nmX3⟩
  | 3, h => cases h; exact ⟨z_u4, tyX4_ok, nmX4⟩
  | 4, h => cases h; exact ⟨z_u5, tyX5_ok, nmX5⟩
  | 5, h => cases h; exact ⟨z_u6, tyX6_ok, nmX6⟩
  | k + 6, h => simp [vwCl] at h
theorem z_e_obj {K : zK} {ad : Nat → Nat} {c : Nat} {fs : List Value} : z_e K ad (.inr (c, fs)) = .inr (c, fs.map (z_v K ad)) := rfl
theorem z_e_int {K : zK} {ad : Nat → Nat} {t m : Nat} {f : Nat → Int32} : z_e K ad (.inl (t, m, .inl f)) = .inl (K.2.1 t, m, .inl f) := rfl
theorem z_e_long {K : zK} {ad : Nat → Nat} {t m : Nat} {f : Nat → Int64} : z_e K ad (.inl (t, m, .inr (.inl f))) = .inl (K.2.1 t, m, .inr (.inl f)) := rfl
theorem z_e_ref {K : zK} {ad : Nat → Nat} {t m : Nat} {f : Nat → Option Nat} : z_e K ad (.inl (t, m, .inr (.inr (.inr (.inr f))))) = .inl (K.2.1 t, m, .inr (.inr (.inr (.inr (fun j => (f j).map (z_ad K ad)))))) := rfl
theorem z_at {K : zK} {ad : Nat → Nat} {n a : Nat} {h : zH} {e : va_E} (ha : a < n) (hc : h a = e) : (z_w K ad n h)[a]? = some (z_ad K ad a, z_e K ad e) := by
  rw [z_w_at ha, hc]
theorem zg_getfield {K : zK} {l : Launch} {d : Nat} {M : zM} {pc : Nat} {ls : List (Nat × Value)} {st : List Value} {n : Nat} {h : zH} {mc ms : Nat} {Q : zQ} {idx ci k a : Nat} {fs : List Value} {v : Value} (hf : zFl M.1.cls idx ci k) (ha : a < n) (hc : h a = .inr (ci, fs)) (hv : fs[k]? = some v) (hd : decode M.2.1 pc = .ok (.getfield idx, 3)) (kk : zGo K l d M (pc + 3) ls (v :: st) n h mc ms Q) : zGo K l d M pc ls (.ref a :: st) n h mc ms Q := by
  intro p e R s m args below meth c A n0 ad0 ad H locs cells slots MC MS lsA C D
  obtain ⟨q, hq, hk, hw⟩ := hf
  obtain ⟨c1, c2, c3⟩ := z_cls hq
  have C' := C
  have D' := D
  obtain ⟨C1, C2, C3, C4, C5, C6, C7, C8, C9, C10, C11, C12, C13, C14⟩ := C'
  obtain ⟨D1, D2, D3, D4, D5, D6, D7, D8, D9⟩ := D'
  exact va_get (C := q.1) (T := q.2.1) (N := q.2.2) C1 C2 C7 c1 C5 C9.1 D6 a (z_at ha hc) hq k hk (C7 _ hw) (fun _ h9 => h9) (v := z_v K ad v) (by rw [List.getElem?_map, hv]; rfl) hd (kk p e R s m args below meth c A n0 ad0 ad H locs cells slots MC MS lsA C D)
theorem z_narrow_ref (ty : FieldType) (a b : Nat) (h : narrow ty (.ref a) = .ref a) : narrow ty (.ref b) = .ref b := by
  cases ty <;> first | rfl | simp_all [narrow]
theorem z_narrow {K : zK} {ad : Nat → Nat} {ty : FieldType} {v : Value} (h : narrow ty v = v) : narrow ty (z_v K ad v) = z_v K ad v := by
  cases v <;> first | exact h | exact z_narrow_ref _ _ _ h
theorem z_fits {K : zK} {ad : Nat → Nat} {ty : FieldType} {v : Value} (h : fits ty v = true) : fits ty (z_v K ad v) = true := by
  cases v <;> first | exact h | (cases ty <;> first | exact h | rfl | simp_all [fits])
theorem z_set_map {K : zK} {ad : Nat → Nat} {fs : List Value} {k : Nat} {v : Value} : (fs.map (z_v K ad)).set k (z_v K ad v) = (fs.set k v).map (z_v K ad) := by
  rw [List.map_set]
theorem zg_putfield {K : zK} {l : Launch} {d : Nat} {M : zM} {pc : Nat} {ls : List (Nat × Value)} {st : List Value} {n : Nat} {h : zH} {mc ms : Nat} {Q : zQ} {idx ci k a : Nat} {fs : List Value} {v : Value} (hf : zFl M.1.cls idx ci k) (ha : a < n) (hc : h a = .inr (ci, fs)) (hl : k < fs.length) (hn : narrow (z_ty ci k) v = v) (hfit : fits (z_ty ci k) v = true) (hfin : ((vwCl[ci]?).map (fun q => (q.2.1 k).2.2.2)) = some false ∨ (M.1.name = "<init>" ∧ (vwCl[ci]?).map (fun q => (q.2.1 k).1) = some M.1.cls)) (hd : decode M.2.1 pc = .ok (.putfield idx, 3)) (kk : zGo K l d M (pc + 3) ls st n (z_up h a (.inr (ci, fs.set k v))) mc ms Q) : zGo K l d M pc ls (v :: .ref a :: st) n h mc ms Q := by
  intro p e R s m args below meth c A n0 ad0 ad H locs cells slots MC MS lsA C D
  obtain ⟨q, hq, hk, hw⟩ := hf
  obtain ⟨c1, c2, c3⟩ := z_cls hq
  have C' := C
  obtain ⟨C1, C2, C3, C4, C5, C6, C7, C8, C9, C10, C11, C12, C13, C14⟩ := C'
  obtain ⟨D1, D2, D3, D4, D5, D6, D7, D8, D9⟩ := D
  have kk2 : ∀ (H1 : Heap) (locs1 : List Loc), va_P K.1 vwCl ((z_w K ad n h).set a (z_ad K ad a, .inr (ci, (fs.map (z_v K ad)).set k (z_v K ad v)))) H1 → va_D A ((z_w K ad n h).set a (z_ad K ad a, .inr (ci, (fs.map (z_v K ad)).set k (z_v K ad v)))) → va_S A s.heap H1 locs1 → W p l e R s m args below meth c H1 locs1 cells slots (MQ below (z_Qc K Q ad0 n0 A) args s MC MS A) (F0 m (pc + 3) lsA (st.map (z_v K ad))) := by
    intro H1 locs1 g1 g2 g3
    have e1 : ((z_w K ad n h).set a (z_ad K ad a, .inr (ci, (fs.map (z_v K ad)).set k (z_v K ad v)))) = z_w K ad n (z_up h a (.inr (ci, fs.set k v))) := by
      rw [z_set_map, ← z_e_obj, z_w_set]
    rw [e1] at g1 g2
    exact kk p e R s m args below meth c A n0 ad0 ad H1 locs1 cells slots MC MS lsA C ⟨D1, D2, D3, D4, D5, g1, g2, g3, D9⟩
  have hfit' : fits (z_ty ci k) (z_v K ad v) = true := z_fits hfit
  have hn' : narrow (z_ty ci k) (z_v K ad v) = z_v K ad v := z_narrow hn
  rcases hff : (q.2.1 k).2.2.2 with _ | _
  · exact va_put (C := q.1) (T := q.2.1) (N := q.2.2) C1 C2 C7 c1 (z_ty ci) c2 c3 C5 C9.1 D6 D7 D8 a (z_at ha hc) hq k hk (C7 _ hw) (fun _ h9 => h9) hff (c2 k hk) hn' hfit' (by simpa using hl) hd kk2
  · rcases hfin with hfin | ⟨i1, i2⟩
    · rw [hq] at hfin
      simp [hff] at hfin
    · rw [hq] at i2
      exact va_putF (C := q.1) (T := q.2.1) (N := q.2.2) C1 C2 C7 c1 (z_ty ci) c2 c3 C5 C9.1 D6 D7 D8 a (z_at ha hc) hq k hk (C7 _ hw) (fun _ h9 => h9) hff (C6.trans i1) (by simpa using i2) (c2 k hk) hn' hfit' (by simpa using hl) hd kk2

/-- arrays: kinds by their places in z_tys -/
theorem zg_iaload {K : zK} {l : Launch} {d : Nat} {M : zM} {pc : Nat} {ls : List (Nat × Value)} {st : List Value} {n : Nat} {h : zH} {mc ms : Nat} {Q : zQ} {a N : Nat} {f : Nat → Int32} {i : Int32} (ha : a < n) (hc : h a = .inl (0, N, .inl f)) (hi : vp_in i N) (hd : decode M.2.1 pc = .ok (.iaload, 1)) (kk : zGo K l d M (pc + 1) ls (.int (f i.toNatClampNeg) :: st) n h mc ms Q) : zGo K l d M pc ls (.int i :: .ref a :: st) n h mc ms Q := by
  intro p e R s m args below meth c A n0 ad0 ad H locs cells slots MC MS lsA C D
  exact va_iald C.1 C.2.1 C.2.2.2.2.2.2.2.2.1.1 D.2.2.2.2.2.1 a 0 (z_at ha hc) rfl hi hd (kk p e R s m args below meth c A n0 ad0 ad H locs cells slots MC MS lsA C D)
theorem zg_baload {K : zK} {l : Launch} {d : Nat} {M : zM} {pc : Nat} {ls : List (Nat × Value)} {st : List Value} {n : Nat} {h : zH} {mc ms : Nat} {Q : zQ} {a N : Nat} {f : Nat → Int32} {i : Int32} (ha : a < n) (hc : h a = .inl (1, N, .inl f)) (hi : vp_in i N) (hd : decode M.2.1 pc = .ok (.baload, 1)) (kk : zGo K l d M (pc + 1) ls (.int (f i.toNatClampNeg) :: st) n h mc ms Q) : zGo K l d M pc ls (.int i :: .ref a :: st) n h mc ms Q := by
  intro p e R s m args below meth c A n0 ad0 ad H locs cells slots MC MS lsA C D
  exact va_bald C.1 C.2.1 C.2.2.2.2.2.2.2.2.1.1 D.2.2.2.2.2.1 a 1 (z_at ha hc) rfl hi hd (kk p e R s m args below meth c A n0 ad0 ad H locs cells slots MC MS lsA C D)
theorem zg_zaload {K : zK} {l : Launch} {d : Nat} {M : zM} {pc : Nat} {ls : List (Nat × Value)} {st : List Value} {n : Nat} {h : zH} {mc ms : Nat} {Q : zQ} {a N : Nat} {f : Nat → Int32} {i : Int32} (ha : a < n) (hc : h a = .inl (3, N, .inl f)) (hi : vp_in i N) (hd : decode M.2.1 pc = .ok (.baload, 1)) (kk : zGo K l d M (pc + 1) ls (.int (f i.toNatClampNeg) :: st) n h mc ms Q) : zGo K l d M pc ls (.int i :: .ref a :: st) n h mc ms Q := by
  intro p e R s m args below meth c A n0 ad0 ad H locs cells slots MC MS lsA C D
  exact va_zald C.1 C.2.1 C.2.2.2.2.2.2.2.2.1.1 D.2.2.2.2.2.1 a 3 (z_at ha hc) rfl hi hd (kk p e R s m args below meth c A n0 ad0 ad H locs cells slots MC MS lsA C D)
theorem zg_laload {K : zK} {l : Launch} {d : Nat} {M : zM} {pc : Nat} {ls : List (Nat × Value)} {st : List Value} {n : Nat} {h : zH} {mc ms : Nat} {Q : zQ} {a N : Nat} {f : Nat → Int64} {i : Int32} (ha : a < n) (hc : h a = .inl (2, N, .inr (.inl f))) (hi : vp_in i N) (hd : decode M.2.1 pc = .ok (.laload, 1)) (kk : zGo K l d M (pc + 1) ls (.long (f i.toNatClampNeg) :: st) n h mc ms Q) : zGo K l d M pc ls (.int i :: .ref a :: st) n h mc ms Q := by
  intro p e R s m args below meth c A n0 ad0 ad H locs cells slots MC MS lsA C D
  exact va_lald C.1 C.2.1 C.2.2.2.2.2.2.2.2.1.1 D.2.2.2.2.2.1 a 2 (z_at ha hc) rfl hi hd (kk p e R s m args below meth c A n0 ad0 ad H locs cells slots MC MS lsA C D)
theorem zg_aaload {K : zK} {l : Launch} {d : Nat} {M : zM} {pc : Nat} {ls : List (Nat × Value)} {st : List Value} {n : Nat} {h : zH} {mc ms : Nat} {Q : zQ} {a N x : Nat} {f : Nat → Option Nat} {i : Int32} (ha : a < n) (hc : h a = .inl (4, N, .inr (.inr (.inr (.inr f))))) (hi : vp_in i N) (hx : f i.toNatClampNeg = some x) (hd : decode M.2.1 pc = .ok (.aaload, 1)) (kk : zGo K l d M (pc + 1) ls (.ref x :: st) n h mc ms Q) : zGo K l d M pc ls (.int i :: .ref a :: st) n h mc ms Q := by
  intro p e R s m args below meth c A n0 ad0 ad H locs cells slots MC MS lsA C D
  have k2 := kk p e R s m args below meth c A n0 ad0 ad H locs cells slots MC MS lsA C D
  refine va_aldq C.1 C.2.1 C.2.2.2.2.2.2.2.2.1.1 D.2.2.2.2.2.1 a 4 (z_at ha hc) rfl hi hd ?_
  show W p l e R s m args below meth c H locs cells slots _ (F0 m (pc + 1) lsA (va_rf ((f i.toNatClampNeg).map (z_ad K ad)) :: st.map (z_v K ad)))
  rw [hx]
  exact k2
theorem zg_arraylength {K : zK} {l : Launch} {d : Nat} {M : zM} {pc : Nat} {ls : List (Nat × Value)} {st : List Value} {n : Nat} {h : zH} {mc ms : Nat} {Q : zQ} {a N t : Nat} {x : (Nat → Int32) ⊕ (Nat → Int64) ⊕ (Nat → UInt32) ⊕ (Nat → UInt64) ⊕ (Nat → Option Nat)} (ha : a < n) (hc : h a = .inl (t, N, x)) (ht : t < 5) (hd : decode M.2.1 pc = .ok (.arraylength, 1)) (kk : zGo K l d M (pc + 1) ls (.int (Int32.ofNat N) :: st) n h mc ms Q) : zGo K l d M pc ls (.ref a :: st) n h mc ms Q := by
  intro p e R s m args below meth c A n0 ad0 ad H locs cells slots MC MS lsA C D
  have hk := kk p e R s m args below meth c A n0 ad0 ad H locs cells slots MC MS lsA C D
  obtain ⟨x', hx'⟩ : ∃ x' : vp_A, z_e K ad (.inl (t, N, x)) = .inl (K.2.1 t, x') ∧ x'.1 = N := by
    rcases x with f | f | f | f | f <;> exact ⟨(N, _), rfl, rfl⟩
  have h1 := z_at (K := K) (ad := ad) ha hc
  rw [hx'.1] at h1
  have hty : ∃ ty, (z_tys K)[t]? = some (K.2.1 t, ty) := by
    match t, ht with
    | 0, _ => exact ⟨_, rfl⟩
    | 1, _ => exact ⟨_, rfl⟩
    | 2, _ => exact ⟨_, rfl⟩
    | 3, _ => exact ⟨_, rfl⟩
    | 4, _ => exact ⟨_, rfl⟩
  obtain ⟨ty, hty⟩ := hty
  exact va_alen C.1 C.2.1 C.2.2.2.2.2.2.2.2.1.1 D.2.2.2.2.2.1 a t h1 hty (v := Int32.ofNat N) (by rw [hx'.2]) hd hk
theorem z_back {K : zK} {ad : Nat → Nat} {n a : Nat} {h : zH} {e : va_E} {e' : va_E} {P : va_W → Prop} (he : z_e K ad e = e') (hP : P ((z_w K ad n h).set a (z_ad K ad a, e'))) : P (z_w K ad n (z_up h a e)) := by
  rw [← z_w_set, he]; exact hP
theorem zg_iastore {K : zK} {l : Launch} {d : Nat} {M : zM} {pc : Nat} {ls : List (Nat × Value)} {st : List Value} {n : Nat} {h : zH} {mc ms : Nat} {Q : zQ} {a N : Nat} {f : Nat → Int32} {i x : Int32} (ha : a < n) (hc : h a = .inl (0, N, .inl f)) (hi : vp_in i N) (hd : decode M.2.1 pc = .ok (.iastore, 1)) (kk : zGo K l d M (pc + 1) ls st n (z_up h a (.inl (0, N, .inl (upd f i.toNatClampNeg x)))) mc ms Q) : zGo K l d M pc ls (.int x :: .int i :: .ref a :: st) n h mc ms Q := by
  intro p e R s m args below meth c A n0 ad0 ad H locs cells slots MC MS lsA C D
  have C' := C
  obtain ⟨C1, C2, C3, C4, C5, C6, C7, C8, C9, C10, C11, C12, C13, C14⟩ := C'
  obtain ⟨D1, D2, D3, D4, D5, D6, D7, D8, D9⟩ := D
  exact va_iast C1 C2 C9.1 D6 D7 D8 a 0 (z_at ha hc) rfl hi hd (fun H1 locs1 g1 g2 g3 => kk p e R s m args below meth c A n0 ad0 ad H1 locs1 cells slots MC MS lsA C ⟨D1, D2, D3, D4, D5, z_back (P := fun w => va_P K.1 vwCl w H1) rfl g1, z_back (P := fun w => va_D A w) rfl g2, g3, D9⟩)
theorem zg_bastore {K : zK} {l : Launch} {d : Nat} {M : zM} {pc : Nat} {ls : List (Nat × Value)} {st : List Value} {n : Nat} {h : zH} {mc ms : Nat} {Q : zQ} {a N : Nat} {f : Nat → Int32} {i x : Int32} (ha : a < n) (hc : h a = .inl (1, N, .inl f)) (hi : vp_in i N) (hd : decode M.2.1 pc = .ok (.bastore, 1)) (kk : zGo K l d M (pc + 1) ls st n (z_up h a (.inl (1, N, .inl (upd f i.toNatClampNeg (vp_nar .byte x))))) mc ms Q) : zGo K l d M pc ls (.int x :: .int i :: .ref a :: st) n h mc ms Q := by
  intro p e R s m args below meth c A n0 ad0 ad H locs cells slots MC MS lsA C D
  have C' := C
  obtain ⟨C1, C2, C3, C4, C5, C6, C7, C8, C9, C10, C11, C12, C13, C14⟩ := C'
  obtain ⟨D1, D2, D3, D4, D5, D6, D7, D8, D9⟩ := D
  exact va_bast C1 C2 C9.1 D6 D7 D8 a 1 (z_at ha hc) rfl hi hd (fun H1 locs1 g1 g2 g3 => kk p e R s m args below meth c A n0 ad0 ad H1 locs1 cells slots MC MS lsA C ⟨D1, D2, D3, D4, D5, z_back (P := fun w => va_P K.1 vwCl w H1) rfl g1, z_back (P := fun w => va_D A w) rfl g2, g3, D9⟩)
theorem zg_zastore {K : zK} {l : Launch} {d : Nat} {M : zM} {pc : Nat} {ls : List (Nat × Value)} {st : List Value} {n : Nat} {h : zH} {mc ms : Nat} {Q : zQ} {a N : Nat} {f : Nat → Int32} {i x : Int32} (ha : a < n) (hc : h a = .inl (3, N, .inl f)) (hi : vp_in i N) (hd : decode M.2.1 pc = .ok (.bastore, 1)) (kk : zGo K l d M (pc + 1) ls st n (z_up h a (.inl (3, N, .inl (upd f i.toNatClampNeg (vp_nar .boolean x))))) mc ms Q) : zGo K l d M pc ls (.int x :: .int i :: .ref a :: st) n h mc ms Q := by
  intro p e R s m args below meth c A n0 ad0 ad H locs cells slots MC MS lsA C D
  have C' := C
  obtain ⟨C1, C2, C3, C4, C5, C6, C7, C8, C9, C10, C11, C12, C13, C14⟩ := C'
  obtain ⟨D1, D2, D3, D4, D5, D6, D7, D8, D9⟩ := D
  exact va_zast C1 C2 C9.1 D6 D7 D8 a 3 (z_at ha hc) rfl hi hd (fun H1 locs1 g1 g2 g3 => kk p e R s m args below meth c A n0 ad0 ad H1 locs1 cells slots MC MS lsA C ⟨D1, D2, D3, D4, D5, z_back (P := fun w => va_P K.1 vwCl w H1) rfl g1, z_back (P := fun w => va_D A w) rfl g2, g3, D9⟩)
theorem zg_lastore {K : zK} {l : Launch} {d : Nat} {M : zM} {pc : Nat} {ls : List (Nat × Value)} {st : List Value} {n : Nat} {h : zH} {mc ms : Nat} {Q : zQ} {a N : Nat} {f : Nat → Int64} {i : Int32} {x : Int64} (ha : a < n) (hc : h a = .inl (2, N, .inr (.inl f))) (hi : vp_in i N) (hd : decode M.2.1 pc = .ok (.lastore, 1)) (kk : zGo K l d M (pc + 1) ls st n (z_up h a (.inl (2, N, .inr (.inl (vp_updL f i.toNatClampNeg x))))) mc ms Q) : zGo K l d M pc ls (.long x :: .int i :: .ref a :: st) n h mc ms Q := by
  intro p e R s m args below meth c A n0 ad0 ad H locs cells slots MC MS lsA C D
  have C' := C
  obtain ⟨C1, C2, C3, C4, C5, C6, C7, C8, C9, C10, C11, C12, C13, C14⟩ := C'
  obtain ⟨D1, D2, D3, D4, D5, D6, D7, D8, D9⟩ := D
  exact va_last C1 C2 C9.1 D6 D7 D8 a 2 (z_at ha hc) rfl hi hd (fun H1 locs1 g1 g2 g3 => kk p e R s m args below meth c A n0 ad0 ad H1 locs1 cells slots MC MS lsA C ⟨D1, D2, D3, D4, D5, z_back (P := fun w => va_P K.1 vwCl w H1) rfl g1, z_back (P := fun w => va_D A w) rfl g2, g3, D9⟩)
/-- the script -/
theorem zg_sload {K : zK} {l : Launch} {d : Nat} {M : zM} {pc : Nat} {ls : List (Nat × Value)} {st : List Value} {n : Nat} {h : zH} {mc ms : Nat} {Q : zQ} {i : Int32} (hi : vp_in i K.2.2.2.2.2.1) (hd : decode M.2.1 pc = .ok (.iaload, 1)) (kk : zGo K l d M (pc + 1) ls (.int (K.2.2.2.2.2.2 i.toNatClampNeg) :: st) n h mc ms Q) : zGo K l d M pc ls (.int i :: .ref 2000 :: st) n h mc ms Q := by
  intro p e R s m args below meth c A n0 ad0 ad H locs cells slots MC MS lsA C D
  obtain ⟨h1, h2, h3, h4, h5, h6, h7, h8⟩ := C.2.2.2.2.2.2.2.2.1
  exact va_sld C.1 C.2.1 h6 h7 h8 D.2.2.2.2.2.2.2.1 hi hd (kk p e R s m args below meth c A n0 ad0 ad H locs cells slots MC MS lsA C D)
theorem zg_slen {K : zK} {l : Launch} {d : Nat} {M : zM} {pc : Nat} {ls : List (Nat × Value)} {st : List Value} {n : Nat} {h : zH} {mc ms : Nat} {Q : zQ} (hd : decode M.2.1 pc = .ok (.arraylength, 1)) (kk : zGo K l d M (pc + 1) ls (.int (nI K.2.2.2.2.2.1) :: st) n h mc ms Q) : zGo K l d M pc ls (.ref 2000 :: st) n h mc ms Q := by
  intro p e R s m args below meth c A n0 ad0 ad H locs cells slots MC MS lsA C D
  obtain ⟨h1, h2, h3, h4, h5, h6, h7, h8⟩ := C.2.2.2.2.2.2.2.2.1
  exact va_slen C.1 C.2.1 h6 h7 h8 D.2.2.2.2.2.2.2.1 hd (kk p e R s m args below meth c A n0 ad0 ad H locs cells slots MC MS lsA C D)
/-- constants of the class file, switches -/
theorem zg_ldc {K : zK} {l : Launch} {d : Nat} {M : zM} {pc : Nat} {ls : List (Nat × Value)} {st : List Value} {n : Nat} {h : zH} {mc ms : Nat} {Q : zQ} {idx : Nat} {v : Int32} (hw : Cond.constant M.1.cls idx v ∈ z_all) (hd : decode M.2.1 pc = .ok (.ldc idx, 2)) (kk : zGo K l d M (pc + 2) ls (.int v :: st) n h mc ms Q) : zGo K l d M pc ls st n h mc ms Q := by
  intro p e R s m args below meth c A n0 ad0 ad H locs cells slots MC MS lsA C D
  exact lv_ldc C.1 C.2.1 C.2.2.2.2.1 (C.2.2.2.2.2.2.1 _ hw) hd (kk p e R s m args below meth c A n0 ad0 ad H locs cells slots MC MS lsA C D)
theorem zg_ldc_w {K : zK} {l : Launch} {d : Nat} {M : zM} {pc : Nat} {ls : List (Nat × Value)} {st : List Value} {n : Nat} {h : zH} {mc ms : Nat} {Q : zQ} {idx : Nat} {v : Int32} (hw : Cond.constant M.1.cls idx v ∈ z_all) (hd : decode M.2.1 pc = .ok (.ldc_w idx, 3)) (kk : zGo K l d M (pc + 3) ls (.int v :: st) n h mc ms Q) : zGo K l d M pc ls st n h mc ms Q := by
  intro p e R s m args below meth c A n0 ad0 ad H locs cells slots MC MS lsA C D
  exact lv_ldcw C.1 C.2.1 C.2.2.2.2.1 (C.2.2.2.2.2.2.1 _ hw) hd (kk p e R s m args below meth c A n0 ad0 ad H locs cells slots MC MS lsA C D)
theorem zg_ldc2_w {K : zK} {l : Launch} {d : Nat} {M : zM} {pc : Nat} {ls : List (Nat × Value)} {st : List Value} {n : Nat} {h : zH} {mc ms : Nat} {Q : zQ} {idx : Nat} {v : Int64} (hw : Cond.constantLong M.1.cls idx v ∈ z_all) (hd : decode M.2.1 pc = .ok (.ldc2_w idx, 3)) (kk : zGo K l d M (pc + 3) ls (.long v :: st) n h mc ms Q) : zGo K l d M pc ls st n h mc ms Q := by
  intro p e R s m args below meth c A n0 ad0 ad H locs cells slots MC MS lsA C D
  exact lv_ldc2 C.1 C.2.1 C.2.2.2.2.1 (C.2.2.2.2.2.2.1 _ hw) hd (kk p e R s m args below meth c A n0 ad0 ad H locs cells slots MC MS lsA C D)
theorem zg_ldcS {K : zK} {l : Launch} {d : Nat} {M : zM} {pc : Nat} {ls : List (Nat × Value)} {st : List Value} {n : Nat} {h : zH} {mc ms : Nat} {Q : zQ} {idx : Nat} (i : Nat) (hi : i < 5) (hM : M.1.cls = RX4) (hix : z_ix.getD i 0 = idx) (hd : decode M.2.1 pc = .ok (.ldc idx, 2)) (kk : zGo K l d M (pc + 2) ls (.ref (1000 + i) :: st) n h mc ms Q) : zGo K l d M pc ls st n h mc ms Q := by
  intro p e R s m args below meth c A n0 ad0 ad H locs cells slots MC MS lsA C D
  obtain ⟨h1, h2, h3, h4⟩ := C.2.2.2.2.2.2.2.2.1
  have k2 := kk p e R s m args below meth c A n0 ad0 ad H locs cells slots MC MS lsA C D
  have e1 : (.ref (1000 + i) :: st).map (z_v K ad) = .ref (K.2.2.1 i) :: st.map (z_v K ad) := by
    have q1 : ¬ 1000 + i < 1000 := by omega
    have q2 : ¬ 1000 + i = 2000 := by omega
    have q3 : 1000 + i - 1000 = i := by omega
    simp only [List.map_cons, z_v, z_ad, if_neg q1, if_neg q2, q3]
  rw [e1] at k2
  have h9 := h3.1 i hi
  rw [hix] at h9
  exact va_ldcS C.1 C.2.1 (hM ▸ C.2.2.2.2.1) h9 hd k2
theorem zg_tableIn {K : zK} {l : Launch} {d : Nat} {M : zM} {pc : Nat} {ls : List (Nat × Value)} {st : List Value} {n : Nat} {h : zH} {mc ms : Nat} {Q : zQ} {dflt lo hi : Int} {offs : Array Int} {len : Nat} {x : Int32} (off : Int) (tgt : Nat) (h1 : ¬ x.toInt < lo) (h2 : ¬ hi < x.toInt) (ho : offs[(x.toInt - lo).toNat]? = some off) (ht : (pc : Int) + off = (tgt : Int)) (kk : zGo K l d M tgt ls st n h mc ms Q) (hd : decode M.2.1 pc = .ok (.tableswitch dflt lo hi offs, len)) : zGo K l d M pc ls (.int x :: st) n h mc ms Q := by
  intro p e R s m args below meth c A n0 ad0 ad H locs cells slots MC MS lsA C D
  exact lv_tableIn C.1 C.2.1 hd h1 h2 ho ht (kk p e R s m args below meth c A n0 ad0 ad H locs cells slots MC MS lsA C D)
theorem zg_tableOut {K : zK} {l : Launch} {d : Nat} {M : zM} {pc : Nat} {ls : List (Nat × Value)} {st : List Value} {n : Nat} {h : zH} {mc ms : Nat} {Q : zQ} {dflt lo hi : Int} {offs : Array Int} {len : Nat} {x : Int32} (tgt : Nat) (h1 : x.toInt < lo ∨ hi < x.toInt) (ht : (pc : Int) + dflt = (tgt : Int)) (kk : zGo K l d M tgt ls st n h mc ms Q) (hd : decode M.2.1 pc = .ok (.tableswitch dflt lo hi offs, len)) : zGo K l d M pc ls (.int x :: st) n h mc ms Q := by
  intro p e R s m args below meth c A n0 ad0 ad H locs cells slots MC MS lsA C D
  exact lv_tableOut C.1 C.2.1 hd h1 ht (kk p e R s m args below meth c A n0 ad0 ad H locs cells slots MC MS lsA C D)
theorem zg_lookup {K : zK} {l : Launch} {d : Nat} {M : zM} {pc : Nat} {ls : List (Nat × Value)} {st : List Value} {n : Nat} {h : zH} {mc ms : Nat} {Q : zQ} {dflt : Int} {ps : Array (Int × Int)} {len : Nat} {x : Int32} (off : Int) (tgt : Nat) (hp : (ps.toList.zip (ps.toList.drop 1)).all (fun (a, next) => a.1 < next.1) = true) (ho : Op.lookupswitch.offset ps.toList dflt x.toInt = off) (ht : (pc : Int) + off = (tgt : Int)) (kk : zGo K l d M tgt ls st n h mc ms Q) (hd : decode M.2.1 pc = .ok (.lookupswitch dflt ps, len)) : zGo K l d M pc ls (.int x :: st) n h mc ms Q := by
  intro p e R s m args below meth c A n0 ad0 ad H locs cells slots MC MS lsA C D
  exact lv_lookup C.1 C.2.1 hd hp ho ht (kk p e R s m args below meth c A n0 ad0 ad H locs cells slots MC MS lsA C D)

/-- a method's entry -/
theorem z_sl_len (K : zK) (ad : Nat → Nat) (av : List Value) : (lg_sl (av.map (z_v K ad))).length = (lg_sl av).length := by
  induction av with
  | nil => rfl
  | cons v t ih =>
    simp only [lg_sl, List.map_cons, List.flatMap_cons, List.length_append, z_v_cat] at ih ⊢
    rw [ih]
    congr 1
    split <;> rfl
theorem z_args_map (K : zK) (ad : Nat → Nat) (av : List Value) : ∀ i : Nat, lv_args i (av.map (z_v K ad)) = (lv_args i av).map (fun q => (q.1, z_v K ad q.2)) := by
  induction av with
  | nil => intro i; rfl
  | cons v t ih =>
    intro i
    simp only [lv_args, List.map_cons, z_v_cat, ih]
theorem zRuns.of {K : zK} {l : Launch} {d : Nat} {M : zM} {av : List Value} {n : Nat} {h : zH} {mc ms : Nat} {Q : zQ} (hy : plainName M.1.cls = true) (hlen : (lg_sl av).length ≤ M.2.2.1) (k : zGo K l d M 0 (lv_args 0 av) [] n h mc ms Q) : zRuns K l d M av n h mc ms Q := by
  intro ad sz
  refine Met.ofW (cc := M.2.1) (maxL := M.2.2.1) (ret := M.2.2.2) hy rfl ?_
  intro p e s m args below meth c s₁ B hml hv
  obtain ⟨rfl, hsz, hP, hI, hD0⟩ := hv
  have hts := atoms_spec (ws := z_ws M) B.pre
  have hown : s.vm.findClass M.1.cls = some m.cls := findClass_of_methodNamed B.named
  have hin : meth.name = M.1.name := (name_of_methodNamed B.named B.method).1
  subst hsz
  rw [lg_entry_eq]
  have hl := lv_entry (av.map (z_v K ad)) (n := M.2.2.1) (by rw [z_sl_len]; exact hlen)
  rw [z_args_map] at hl
  exact k p e _ s m _ below meth c (va_A (z_w K ad n h) s.heap.size) n ad ad s.heap [] 0 0 mc ms _ ⟨B.exec, B.bytes, B.returns, hml, hown, hin, fun w hw => hts w (List.mem_cons_of_mem _ hw), B.notSynchronized, hI, fun q hq => Or.inr hq, Nat.le_refl _, Nat.le_refl _, Nat.le_refl _, Nat.le_refl _⟩ ⟨Nat.le_refl _, fun _ _ => rfl, fun _ => rfl, by omega, by omega, hP, hD0.self, va_S.rf, hl⟩
theorem zRuns.mono {K : zK} {l : Launch} {d : Nat} {M : zM} {av : List Value} {n : Nat} {h : zH} {mc ms : Nat} {Q Q' : zQ} (hQ : ∀ v n' h', Q v n' h' → Q' v n' h') (k : zRuns K l d M av n h mc ms Q) : zRuns K l d M av n h mc ms Q' := by
  intro ad sz p e h1 h2 h3 s m args below h4 h5 h6 h7
  obtain ⟨t, o, a1, a2, a3, ⟨⟨v, n', h', ad', q1, q2, q3⟩, b3⟩, b4⟩ := k ad sz p e h1 h2 h3 s m args below h4 h5 h6 h7
  exact ⟨t, o, a1, a2, a3, ⟨⟨v, n', h', ad', q1, hQ _ _ _ q2, q3⟩, b3⟩, b4⟩
/-- calls -/
def zLt (n : Nat) : Value → Prop
  | .ref a => a < n ∨ 1000 ≤ a
  | _ => True
theorem z_v_same {K : zK} {ad ad' : Nat → Nat} {n : Nat} {v : Value} (hv : zLt n v) (h : ∀ k, k < n → ad' k = ad k) : z_v K ad' v = z_v K ad v := by
  cases v with
  | ref a =>
    rcases hv with q | q
    · simp only [z_v, z_ad, h a q]
    · have q : 1000 ≤ a := q
      have q' : ¬ a < 1000 := Nat.not_lt.mpr q
      simp only [z_v, z_ad, if_neg q']
  | _ => rfl
theorem z_lst_same {K : zK} {ad ad' : Nat → Nat} {n : Nat} {L : List Value} (hv : ∀ v ∈ L, zLt n v) (h : ∀ k, k < n → ad' k = ad k) : L.map (z_v K ad') = L.map (z_v K ad) :=
  List.map_congr_left (fun v hm => z_v_same (hv v hm) h)
theorem z_loc_same {K : zK} {ad ad' : Nat → Nat} {n : Nat} {L : List (Nat × Value)} (hv : ∀ q ∈ L, zLt n q.2) (h : ∀ k, k < n → ad' k = ad k) : L.map (fun q => (q.1, z_v K ad' q.2)) = L.map (fun q => (q.1, z_v K ad q.2)) :=
  List.map_congr_left (fun q hm => by rw [z_v_same (hv q hm) h])
def zWf (n : Nat) (ls : List (Nat × Value)) (st : List Value) : Prop := (∀ q ∈ ls, zLt n q.2) ∧ ∀ v ∈ st, zLt n v
/-- what a call does to the walk -/
theorem z_called {K : zK} {l : Launch} {d : Nat} {M : zM} {pc : Nat} {ls : List (Nat × Value)} {rest : List Value} {n : Nat} {h : zH} {mc ms mc' ms' : Nat} {Q Q' : zQ} {p : Program} {e : Env} {R : Room} {s : State} {m : MethodId} {args a : Array Value} {below : List Frame} {meth : Method} {c : Code} {A : Nat → Prop} {n0 : Nat} {ad0 ad : Nat → Nat} {H : Heap} {locs : List Loc} {cells slots MC MS : Nat} {lsA : Array Slot} {st0 : List Value}
    (C : zC K d M p R s m args meth c A MC MS) (D : zD K M A s n0 ad0 ad n h H locs cells slots mc ms MC MS ls lsA) (hb1 : mc' ≤ mc) (hb2 : ms' ≤ ms)
    (hr : va_Run p l e R s m args below meth c H locs cells slots mc' ms' (F0 m pc lsA st0) (rest.map (z_v K ad)) (z_Qc K Q' ad n (va_A (z_w K ad n h) H.size) a) (va_A (z_w K ad n h) H.size))
    (k : ∀ v n' h', Q' v n' h' → (n' = n ∨ zWf n ls rest) ∧ zGo K l d M (pc + 3) ls (v.toList ++ rest) n' h' (mc - mc') (ms - ms') Q) : W p l e R s m args below meth c H locs cells slots (MQ below (z_Qc K Q ad0 n0 A) args s MC MS A) (F0 m pc lsA st0) := by
  have C' := C
  obtain ⟨C1, C2, C3, C4, C5, C6, C7, C8, C9, C10, C11, C12, C13, C14⟩ := C'
  obtain ⟨D1, D2, D3, D4, D5, D6, D7, D8, D9⟩ := D
  have hsub : ∀ q, va_A (z_w K ad n h) H.size q → A q := by
    rintro q (⟨k, e, hk⟩ | hq)
    · exact D7.2 k (q, e) hk
    · exact C10 q (Nat.le_trans D8.1 hq)
  intro T hT X
  obtain ⟨v0, st₀, t, T', L, h0, X', hL, e1, e2, ⟨⟨v, n', h', ad', hv, hq, g1, g2, g3, g4, g5⟩, hz, hk⟩, st⟩ := hr T hT X
  obtain rfl : v0 = v.map (z_v K ad') := by cases hv; rfl
  obtain ⟨hw, kk⟩ := k v n' h' hq
  rw [h0] at hz hk
  have hS : va_S A s.heap T'.heap (locs ++ L) := ⟨Nat.le_trans D8.1 (by rw [e1]; exact hz), fun q h1 h2 => by rw [e1, hk q (Nat.lt_of_lt_of_le h1 D8.1) (fun z => h2 (hsub q z))]; exact D8.2.1 q h1 h2, fun q hq => by
      rcases List.mem_append.mp hq with h | h
      · exact D8.2.2 q h
      · exact hsub _ (hL q h)⟩
  have eL : ls.map (fun q => (q.1, z_v K ad' q.2)) = ls.map (fun q => (q.1, z_v K ad q.2)) := by
    rcases hw with hw | hw
    · rw [g3 hw]
    · exact z_loc_same hw.1 g2
  have eR : rest.map (z_v K ad') = rest.map (z_v K ad) := by
    rcases hw with hw | hw
    · rw [g3 hw]
    · exact z_lst_same hw.2 g2
  have eS : (v.toList ++ rest).map (z_v K ad') = (v.map (z_v K ad')).toList ++ rest.map (z_v K ad) := by
    rw [List.map_append, eR]
    cases v <;> rfl
  have k2 := kk p e R s m args below meth c A n0 ad0 ad' T'.heap (locs ++ L) (cells + mc') (slots + ms') MC MS lsA C ⟨Nat.le_trans D1 g1, fun j hj => (g2 j (Nat.lt_of_lt_of_le hj D1)).trans (D2 j hj), fun q => by
      have q1 : n' = n := by omega
      have q2 : n = n0 := by omega
      rw [g3 q1]; exact D3 q2, by omega, by omega, by rw [e1]; exact g4, g5.weaken (fun _ q _ z => hsub q.1 z), hS, by rw [eL]; exact D9⟩
  rw [eS] at k2
  obtain ⟨t2, a1, b1⟩ := k2 T' rfl X'
  exact ⟨t2, st t2 a1, b1⟩
theorem z_blind {K : zK} {ad : Nat → Nat} {n : Nat} {h : zH} {sz : Nat} {av : List Value} : FrameBlind (z_Pc K ad n h sz av) := by
  intro a U g mk q
  obtain ⟨q0, q1, q2, q3, q4⟩ := q
  exact ⟨q0, q1, q2, q3.calling a g mk, q4⟩
theorem z_goodIn (M : zM) (hc : Cond.code M.1 M.2.1 M.2.2.1 M.2.2.2 ∈ z_all) : GoodIn z_all (z_ws M) := by
  intro w hw
  have h1 : w ∈ z_all := by
    rcases List.mem_cons.mp hw with rfl | h
    · exact hc
    · exact h
  exact ⟨h1, good_of_word (z_good h1)⟩
/-- a call's words: 0 virtual, 1 static, 2 a constructor -/
def zMl (kind : Nat) (own : String) (idx : Nat) (M : zM) (na : Nat) : Prop :=
  Cond.code M.1 M.2.1 M.2.2.1 M.2.2.2 ∈ z_all ∧ Cond.initialized M.1.cls ∈ z_all ∧ (M.1.cls ≠ "java/lang/invoke/MethodHandle" ∧ M.1.cls ≠ "java/lang/invoke/VarHandle") ∧ (parseMethodDescriptor M.1.desc).map (fun d => d.parameters.length) = some na ∧ M.2.2.1 ≤ 40 ∧
  match kind with
  | 0 => Cond.methodLink own idx M.1 ∈ z_all ∧ Cond.instanceMethod M.1 ∈ z_all ∧ Cond.selects M.1.cls M.1 M.1 ∈ z_all
  | 1 => Cond.methodLink own idx M.1 ∈ z_all ∧ Cond.static M.1 ∈ z_all
  | _ => (Cond.methodLink own idx M.1 ∈ z_all ∨ (own, idx, M.1) ∈ z_nest) ∧ Cond.instanceMethod M.1 ∈ z_all ∧ M.1.name = "<init>" ∧ M.2.2.2 = none
theorem z_callB {K : zK} {d d' : Nat} {M M' : zM} {idx na mc' ms' : Nat} {p : Program} {R : Room} {s : State} {m : MethodId} {args : Array Value} {meth : Method} {c : Code} {A : Nat → Prop} {MC MS : Nat} {kind : Nat} (C : zC K d M p R s m args meth c A MC MS) (hm : zMl kind M.1.cls idx M' na) (hl : Cond.methodLink M.1.cls idx M'.1 ∈ z_all) (hd' : d' + 1 ≤ d) :
    CallB R s args M.1.cls idx M'.1 M'.2.1 M'.2.2.1 M'.2.2.2 (z_ws M') (z_rm d' mc' ms') mc' ms' na := by
  obtain ⟨C1, C2, C3, C4, C5, C6, C7, C8, C9, C10, C11, C12, C13, C14⟩ := C
  obtain ⟨m1, m2, m3, m4, m5, -⟩ := hm
  exact callB_of na C7 (z_goodIn M' m1) rfl rfl rfl (C7 _ m2) (C7 _ hl) ⟨m3.1, m3.2, m4⟩ ⟨by show d' + 1 ≤ R.frames; omega, by show 8 + (M'.2.2.1 + 11) + 64 * d' ≤ R.locals; omega⟩
theorem z_pre {K : zK} {M : zM} {d : Nat} {ls : List (Nat × Value)} {n : Nat} {h : zH} {mc ms : Nat} {p : Program} {R : Room} {s : State} {m : MethodId} {args : Array Value} {meth : Method} {c : Code} {A : Nat → Prop} {n0 : Nat} {ad0 ad : Nat → Nat} {H : Heap} {locs : List Loc} {cells slots MC MS : Nat} {lsA : Array Slot} {av : List Value} (C : zC K d M p R s m args meth c A MC MS) (D : zD K M A s n0 ad0 ad n h H locs cells slots mc ms MC MS ls lsA) : ∀ U : State, U.heap = H → s.WarmedH U.vm → z_Pc K ad n h H.size av (av.map (z_v K ad)).toArray U := by
  obtain ⟨C1, C2, C3, C4, C5, C6, C7, C8, C9, C10, C11, C12, C13, C14⟩ := C
  obtain ⟨D1, D2, D3, D4, D5, D6, D7, D8, D9⟩ := D
  intro U hU hW
  have hsub : ∀ q, va_A (z_w K ad n h) H.size q → A q := by
    rintro q (⟨k, e, hk⟩ | hq)
    · exact D7.2 k (q, e) hk
    · exact C10 q (Nat.le_trans D8.1 hq)
  exact ⟨rfl, by rw [hU], by rw [hU]; exact D6, by rw [hU]; exact C9.call D8 hsub hW, D7.weaken (fun _ _ _ _ => trivial)⟩
theorem zg_callv {K : zK} {l : Launch} {d : Nat} {M : zM} {pc : Nat} {ls : List (Nat × Value)} {st : List Value} {n : Nat} {h : zH} {mc ms : Nat} {Q : zQ} {d' idx na mc' ms' b ci : Nat} {M' : zM} {av rest fs : List Value} {Q' : zQ} (hr : zRuns K l d' M' (.ref b :: av) n h mc' ms' Q') (hm : zMl 0 M.1.cls idx M' na) (hb : b < n) (hc : h b = .inr (ci, fs)) (hcl : (vwCl[ci]?).map (fun q => q.1) = some M'.1.cls) (hst : st = av.reverse ++ .ref b :: rest) (hna : av.length = na) (hd' : d' + 1 ≤ d) (hrest : (rest.map fun v => v.category).sum ≤ 8) (hb1 : mc' ≤ mc) (hb2 : ms' ≤ ms) (hd : decode M.2.1 pc = .ok (.invokevirtual idx, 3))
    (k : ∀ v n' h', Q' v n' h' → (n' = n ∨ zWf n ls rest) ∧ zGo K l d M (pc + 3) ls (v.toList ++ rest) n' h' (mc - mc') (ms - ms') Q) : zGo K l d M pc ls st n h mc ms Q := by
  intro p e R s m args below meth c A n0 ad0 ad H locs cells slots MC MS lsA C D
  subst hst
  have C' := C
  have D' := D
  obtain ⟨C1, C2, C3, C4, C5, C6, C7, C8, C9, C10, C11, C12, C13, C14⟩ := C'
  obtain ⟨D1, D2, D3, D4, D5, D6, D7, D8, D9⟩ := D'
  have m6 : Cond.methodLink M.1.cls idx M'.1 ∈ z_all ∧ Cond.instanceMethod M'.1 ∈ z_all ∧ Cond.selects M'.1.cls M'.1 M'.1 ∈ z_all := hm.2.2.2.2.2
  obtain ⟨q, hq, hq2⟩ : ∃ q, vwCl[ci]? = some q ∧ q.1 = M'.1.cls := by
    cases hv : vwCl[ci]? with
    | none => rw [hv] at hcl; simp at hcl
    | some q => rw [hv] at hcl; exact ⟨q, rfl, by simpa using hcl⟩
  obtain ⟨cell, hcell, hobj, hfc⟩ := va_recv C9.1 D6 hq (z_at (K := K) (ad := ad) hb hc)
  rw [hq2] at hfc
  have hp : PreV s H M'.1.cls (z_ad K ad b) (z_Pc K ad n h H.size (.ref b :: av)) (av.map (z_v K ad)) := ⟨z_blind, ⟨cell, hcell, hobj, hfc⟩, z_pre (av := .ref b :: av) C D⟩
  have hrun := va_runV (g := F0 m pc lsA ((av.reverse ++ .ref b :: rest).map (z_v K ad))) (rest := rest.map (z_v K ad)) (cells := cells) (slots := slots) (locs := locs) (below := below) (e := e) (meth := meth) ⟨C1, C2, C4, C5, C7⟩ (hr ad H.size) ⟨z_callB (mc' := mc') (ms' := ms') C hm m6.1 hd', C7 _ m6.2.1, C7 _ m6.2.2⟩ hp rfl (by rw [List.length_map]; exact hna) D9.1 (by simp [z_v]) (by
    have e1 : ((rest.map (z_v K ad)).map fun v => v.category) = rest.map fun v => v.category := by
      rw [List.map_map]; exact List.map_congr_left (fun v _ => z_v_cat K ad v)
    show 2 * 0 + _ ≤ 8
    rw [e1]; omega) hd ⟨by omega, by omega⟩
  exact z_called C D hb1 hb2 hrun k
theorem zg_calls {K : zK} {l : Launch} {d : Nat} {M : zM} {pc : Nat} {ls : List (Nat × Value)} {st : List Value} {n : Nat} {h : zH} {mc ms : Nat} {Q : zQ} {d' idx na mc' ms' : Nat} {M' : zM} {av rest : List Value} {Q' : zQ} (hr : zRuns K l d' M' av n h mc' ms' Q') (hm : zMl 1 M.1.cls idx M' na) (hst : st = av.reverse ++ rest) (hna : av.length = na) (hd' : d' + 1 ≤ d) (hrest : (rest.map fun v => v.category).sum ≤ 8) (hb1 : mc' ≤ mc) (hb2 : ms' ≤ ms) (hd : decode M.2.1 pc = .ok (.invokestatic idx, 3))
    (k : ∀ v n' h', Q' v n' h' → (n' = n ∨ zWf n ls rest) ∧ zGo K l d M (pc + 3) ls (v.toList ++ rest) n' h' (mc - mc') (ms - ms') Q) : zGo K l d M pc ls st n h mc ms Q := by
  intro p e R s m args below meth c A n0 ad0 ad H locs cells slots MC MS lsA C D
  subst hst
  have C' := C
  have D' := D
  obtain ⟨C1, C2, C3, C4, C5, C6, C7, C8, C9, C10, C11, C12, C13, C14⟩ := C'
  obtain ⟨D1, D2, D3, D4, D5, D6, D7, D8, D9⟩ := D'
  have m6 : Cond.methodLink M.1.cls idx M'.1 ∈ z_all ∧ Cond.static M'.1 ∈ z_all := hm.2.2.2.2.2
  have hrun := va_runS (g := F0 m pc lsA ((av.reverse ++ rest).map (z_v K ad))) (rest := rest.map (z_v K ad)) (cells := cells) (slots := slots) (locs := locs) (below := below) (e := e) (meth := meth) ⟨C1, C2, C4, C5, C7⟩ (hr ad H.size) ⟨z_callB (mc' := mc') (ms' := ms') C hm m6.1 hd', C7 _ m6.2⟩ (H := H) (As := av.map (z_v K ad)) ⟨z_blind, z_pre C D⟩ rfl (by rw [List.length_map]; exact hna) D9.1 (by simp) (by
    have e1 : ((rest.map (z_v K ad)).map fun v => v.category) = rest.map fun v => v.category := by
      rw [List.map_map]; exact List.map_congr_left (fun v _ => z_v_cat K ad v)
    show 2 * 0 + _ ≤ 8
    rw [e1]; omega) hd ⟨by omega, by omega⟩
  exact z_called C D hb1 hb2 hrun k

/-- blocks: instructions by their places -/
def zhd : List (Nat × Instr) → Nat → Nat
  | [], fin => fin
  | (p, _) :: _, _ => p
def zOk (cc : ByteArray) : List (Nat × Instr) → Nat → Bool
  | [], _ => true
  | (p, i) :: t, fin => decide (decode cc p = .ok (i, zhd t fin - p)) && zOk cc t fin
def zGb (K : zK) (l : Launch) (d : Nat) (M : zM) (bs : List (Nat × Instr)) (fin : Nat) (ls : List (Nat × Value)) (st : List Value) (n : Nat) (h : zH) (mc ms : Nat) (Q : zQ) : Prop := zOk M.2.1 bs fin = true → zGo K l d M (zhd bs fin) ls st n h mc ms Q
theorem zb_in {K : zK} {l : Launch} {d : Nat} {M : zM} {bs : List (Nat × Instr)} {fin : Nat} {ls : List (Nat × Value)} {st : List Value} {n : Nat} {h : zH} {mc ms : Nat} {Q : zQ} (ok : zOk M.2.1 bs fin = true) (k : zGb K l d M bs fin ls st n h mc ms Q) : zGo K l d M (zhd bs fin) ls st n h mc ms Q := k ok
theorem zb_out {K : zK} {l : Launch} {d : Nat} {M : zM} {fin : Nat} {ls : List (Nat × Value)} {st : List Value} {n : Nat} {h : zH} {mc ms : Nat} {Q : zQ} (k : zGo K l d M fin ls st n h mc ms Q) : zGb K l d M [] fin ls st n h mc ms Q := fun _ => k
theorem zb_ok {cc : ByteArray} {p : Nat} {i : Instr} {bs : List (Nat × Instr)} {fin len : Nat} (ok : zOk cc ((p, i) :: bs) fin = true) (hlen : zhd bs fin = p + len) : decode cc p = .ok (i, len) ∧ zOk cc bs fin = true := by
  simp only [zOk, Bool.and_eq_true, decide_eq_true_eq] at ok
  have e : zhd bs fin - p = len := by omega
  rw [e] at ok
  exact ok
theorem zb_go {K : zK} {l : Launch} {d : Nat} {M : zM} {p : Nat} {i : Instr} {bs : List (Nat × Instr)} {fin len : Nat} {ls ls' : List (Nat × Value)} {st st' : List Value} {n n' : Nat} {h h' : zH} {mc ms mc' ms' : Nat} {Q : zQ} (g : decode M.2.1 p = .ok (i, len) → zGo K l d M (p + len) ls' st' n' h' mc' ms' Q → zGo K l d M p ls st n h mc ms Q) (hlen : zhd bs fin = p + len) (k : zGb K l d M bs fin ls' st' n' h' mc' ms' Q) : zGb K l d M ((p, i) :: bs) fin ls st n h mc ms Q := by
  intro ok
  obtain ⟨o1, o2⟩ := zb_ok ok hlen
  have k2 := k o2
  rw [hlen] at k2
  exact g o1 k2
theorem zb_br {K : zK} {l : Launch} {d : Nat} {M : zM} {p : Nat} {i : Instr} {bs : List (Nat × Instr)} {fin len tgt : Nat} {ls : List (Nat × Value)} {st st' : List Value} {n : Nat} {h : zH} {mc ms : Nat} {Q : zQ} {P N : Prop} (g : decode M.2.1 p = .ok (i, len) → (P → zGo K l d M tgt ls st' n h mc ms Q) → (N → zGo K l d M (p + len) ls st' n h mc ms Q) → zGo K l d M p ls st n h mc ms Q) (hlen : zhd bs fin = p + len) (kt : P → zGo K l d M tgt ls st' n h mc ms Q) (kf : N → zGb K l d M bs fin ls st' n h mc ms Q) : zGb K l d M ((p, i) :: bs) fin ls st n h mc ms Q := by
  intro ok
  obtain ⟨o1, o2⟩ := zb_ok ok hlen
  exact g o1 kt (fun q => hlen ▸ kf q o2)
theorem zb_end {K : zK} {l : Launch} {d : Nat} {M : zM} {p : Nat} {i : Instr} {bs : List (Nat × Instr)} {fin len : Nat} {ls : List (Nat × Value)} {st : List Value} {n : Nat} {h : zH} {mc ms : Nat} {Q : zQ} (g : decode M.2.1 p = .ok (i, len) → zGo K l d M p ls st n h mc ms Q) (hlen : zhd bs fin = p + len) : zGb K l d M ((p, i) :: bs) fin ls st n h mc ms Q := by
  intro ok
  obtain ⟨o1, o2⟩ := zb_ok ok hlen
  exact g o1
/-- what a method answers and leaves: no new cell -/
def zRet (K : zK) (l : Launch) (d : Nat) (M : zM) (av : List Value) (n : Nat) (h : zH) (v : Option Value) (h' : zH) : Prop := zRuns K l d M av n h 0 0 (fun v1 n1 h1 => v1 = v ∧ n1 = n ∧ h1 = h')
def zRex (K : zK) (l : Launch) (d : Nat) (M : zM) (av : List Value) (n : Nat) (h : zH) (P : Option Value → zH → Prop) : Prop := zRuns K l d M av n h 0 0 (fun v1 n1 h1 => n1 = n ∧ P v1 h1)
theorem zb_callv {K : zK} {l : Launch} {d : Nat} {M : zM} {p idx fin : Nat} {bs : List (Nat × Instr)} {ls : List (Nat × Value)} {st : List Value} {n : Nat} {h h' : zH} {Q : zQ} {d' na b ci : Nat} {M' : zM} {av rest fs : List Value} {v : Option Value} (hr : zRet K l d' M' (.ref b :: av) n h v h') (hm : zMl 0 M.1.cls idx M' na) (hc : h b = .inr (ci, fs)) (hcl : (vwCl[ci]?).map (fun q => q.1) = some M'.1.cls) (hst : st = av.reverse ++ .ref b :: rest) (hb : b < n) (hd' : d' + 1 ≤ d) (hna : av.length = na) (hrest : (rest.map fun v => v.category).sum ≤ 8) (hlen : zhd bs fin = p + 3) (k : zGb K l d M bs fin ls (v.toList ++ rest) n h' 0 0 Q) : zGb K l d M ((p, .invokevirtual idx) :: bs) fin ls st n h 0 0 Q := by
  intro ok
  obtain ⟨o1, o2⟩ := zb_ok ok hlen
  have k2 := k o2
  rw [hlen] at k2
  refine zg_callv hr hm hb hc hcl hst hna hd' hrest (Nat.le_refl _) (Nat.le_refl _) o1 (fun v1 n1 h1 q => ?_)
  obtain ⟨rfl, rfl, rfl⟩ := q
  exact ⟨Or.inl rfl, k2⟩
theorem zb_calls {K : zK} {l : Launch} {d : Nat} {M : zM} {p idx fin : Nat} {bs : List (Nat × Instr)} {ls : List (Nat × Value)} {st : List Value} {n : Nat} {h h' : zH} {Q : zQ} {d' na : Nat} {M' : zM} {av rest : List Value} {v : Option Value} (hr : zRet K l d' M' av n h v h') (hm : zMl 1 M.1.cls idx M' na) (hst : st = av.reverse ++ rest) (hd' : d' + 1 ≤ d) (hna : av.length = na) (hrest : (rest.map fun v => v.category).sum ≤ 8) (hlen : zhd bs fin = p + 3) (k : zGb K l d M bs fin ls (v.toList ++ rest) n h' 0 0 Q) : zGb K l d M ((p, .invokestatic idx) :: bs) fin ls st n h 0 0 Q := by
  intro ok
  obtain ⟨o1, o2⟩ := zb_ok ok hlen
  have k2 := k o2
  rw [hlen] at k2
  refine zg_calls hr hm hst hna hd' hrest (Nat.le_refl _) (Nat.le_refl _) o1 (fun v1 n1 h1 q => ?_)
  obtain ⟨rfl, rfl, rfl⟩ := q
  exact ⟨Or.inl rfl, k2⟩
theorem zb_callvx {K : zK} {l : Launch} {d : Nat} {M : zM} {p idx fin : Nat} {bs : List (Nat × Instr)} {ls : List (Nat × Value)} {st : List Value} {n : Nat} {h : zH} {Q : zQ} {d' na b ci : Nat} {M' : zM} {av rest fs : List Value} {P : Option Value → zH → Prop} (hr : zRex K l d' M' (.ref b :: av) n h P) (hm : zMl 0 M.1.cls idx M' na) (hc : h b = .inr (ci, fs)) (hcl : (vwCl[ci]?).map (fun q => q.1) = some M'.1.cls) (hst : st = av.reverse ++ .ref b :: rest) (hb : b < n) (hd' : d' + 1 ≤ d) (hna : av.length = na) (hrest : (rest.map fun v => v.category).sum ≤ 8) (hlen : zhd bs fin = p + 3) (k : ∀ v h', P v h' → zGb K l d M bs fin ls (v.toList ++ rest) n h' 0 0 Q) : zGb K l d M ((p, .invokevirtual idx) :: bs) fin ls st n h 0 0 Q := by
  intro ok
  obtain ⟨o1, o2⟩ := zb_ok ok hlen
  refine zg_callv hr hm hb hc hcl hst hna hd' hrest (Nat.le_refl _) (Nat.le_refl _) o1 (fun v1 n1 h1 q => ?_)
  obtain ⟨rfl, q⟩ := q
  have k2 := k v1 h1 q o2
  rw [hlen] at k2
  exact ⟨Or.inl rfl, k2⟩
theorem zb_callsx {K : zK} {l : Launch} {d : Nat} {M : zM} {p idx fin : Nat} {bs : List (Nat × Instr)} {ls : List (Nat × Value)} {st : List Value} {n : Nat} {h : zH} {Q : zQ} {d' na : Nat} {M' : zM} {av rest : List Value} {P : Option Value → zH → Prop} (hr : zRex K l d' M' av n h P) (hm : zMl 1 M.1.cls idx M' na) (hst : st = av.reverse ++ rest) (hd' : d' + 1 ≤ d) (hna : av.length = na) (hrest : (rest.map fun v => v.category).sum ≤ 8) (hlen : zhd bs fin = p + 3) (k : ∀ v h', P v h' → zGb K l d M bs fin ls (v.toList ++ rest) n h' 0 0 Q) : zGb K l d M ((p, .invokestatic idx) :: bs) fin ls st n h 0 0 Q := by
  intro ok
  obtain ⟨o1, o2⟩ := zb_ok ok hlen
  refine zg_calls hr hm hst hna hd' hrest (Nat.le_refl _) (Nat.le_refl _) o1 (fun v1 n1 h1 q => ?_)
  obtain ⟨rfl, q⟩ := q
  have k2 := k v1 h1 q o2
  rw [hlen] at k2
  exact ⟨Or.inl rfl, k2⟩
theorem zRet.rex {K : zK} {l : Launch} {d : Nat} {M : zM} {av : List Value} {n : Nat} {h : zH} {v : Option Value} {h' : zH} {P : Option Value → zH → Prop} (hr : zRet K l d M av n h v h') (hP : P v h') : zRex K l d M av n h P := zRuns.mono (fun v1 n1 h1 q => by obtain ⟨rfl, rfl, rfl⟩ := q; exact ⟨rfl, hP⟩) hr
/-- an index, as a number -/
def zIx (i : Int32) (N k : Nat) : Prop := vp_in i N ∧ i.toNatClampNeg = k
theorem zIx.nI {N k : Nat} (hk : k < N) (hN : N < 2 ^ 31) : zIx (nI k) N k := ⟨vp_in_nI hk hN, nI_clamp (by omega)⟩
theorem zi_iaload {K : zK} {l : Launch} {d : Nat} {M : zM} {pc : Nat} {ls : List (Nat × Value)} {st : List Value} {n : Nat} {h : zH} {mc ms : Nat} {Q : zQ} {a N k : Nat} {f : Nat → Int32} {i : Int32} (ha : a < n) (hc : h a = .inl (0, N, .inl f)) (hi : zIx i N k) (hd : decode M.2.1 pc = .ok (.iaload, 1)) (kk : zGo K l d M (pc + 1) ls (.int (f k) :: st) n h mc ms Q) : zGo K l d M pc ls (.int i :: .ref a :: st) n h mc ms Q := zg_iaload ha hc hi.1 hd (by rw [hi.2]; exact kk)
theorem zi_baload {K : zK} {l : Launch} {d : Nat} {M : zM} {pc : Nat} {ls : List (Nat × Value)} {st : List Value} {n : Nat} {h : zH} {mc ms : Nat} {Q : zQ} {a N k : Nat} {f : Nat → Int32} {i : Int32} (ha : a < n) (hc : h a = .inl (1, N, .inl f)) (hi : zIx i N k) (hd : decode M.2.1 pc = .ok (.baload, 1)) (kk : zGo K l d M (pc + 1) ls (.int (f k) :: st) n h mc ms Q) : zGo K l d M pc ls (.int i :: .ref a :: st) n h mc ms Q := zg_baload ha hc hi.1 hd (by rw [hi.2]; exact kk)
theorem zi_zaload {K : zK} {l : Launch} {d : Nat} {M : zM} {pc : Nat} {ls : List (Nat × Value)} {st : List Value} {n : Nat} {h : zH} {mc ms : Nat} {Q : zQ} {a N k : Nat} {f : Nat → Int32} {i : Int32} (ha : a < n) (hc : h a = .inl (3, N, .inl f)) (hi : zIx i N k) (hd : decode M.2.1 pc = .ok (.baload, 1)) (kk : zGo K l d M (pc + 1) ls (.int (f k) :: st) n h mc ms Q) : zGo K l d M pc ls (.int i :: .ref a :: st) n h mc ms Q := zg_zaload ha hc hi.1 hd (by rw [hi.2]; exact kk)
theorem zi_laload {K : zK} {l : Launch} {d : Nat} {M : zM} {pc : Nat} {ls : List (Nat × Value)} {st : List Value} {n : Nat} {h : zH} {mc ms : Nat} {Q : zQ} {a N k : Nat} {f : Nat → Int64} {i : Int32} (ha : a < n) (hc : h a = .inl (2, N, .inr (.inl f))) (hi : zIx i N k) (hd : decode M.2.1 pc = .ok (.laload, 1)) (kk : zGo K l d M (pc + 1) ls (.long (f k) :: st) n h mc ms Q) : zGo K l d M pc ls (.int i :: .ref a :: st) n h mc ms Q := zg_laload ha hc hi.1 hd (by rw [hi.2]; exact kk)
theorem zi_aaload {K : zK} {l : Launch} {d : Nat} {M : zM} {pc : Nat} {ls : List (Nat × Value)} {st : List Value} {n : Nat} {h : zH} {mc ms : Nat} {Q : zQ} {a N k x : Nat} {f : Nat → Option Nat} {i : Int32} (ha : a < n) (hc : h a = .inl (4, N, .inr (.inr (.inr (.inr f))))) (hi : zIx i N k) (hx : f k = some x) (hd : decode M.2.1 pc = .ok (.aaload, 1)) (kk : zGo K l d M (pc + 1) ls (.ref x :: st) n h mc ms Q) : zGo K l d M pc ls (.int i :: .ref a :: st) n h mc ms Q := zg_aaload ha hc hi.1 (by rw [hi.2]; exact hx) hd kk
theorem zi_iastore {K : zK} {l : Launch} {d : Nat} {M : zM} {pc : Nat} {ls : List (Nat × Value)} {st : List Value} {n : Nat} {h : zH} {mc ms : Nat} {Q : zQ} {a N k : Nat} {f : Nat → Int32} {i x : Int32} (ha : a < n) (hc : h a = .inl (0, N, .inl f)) (hi : zIx i N k) (hd : decode M.2.1 pc = .ok (.iastore, 1)) (kk : zGo K l d M (pc + 1) ls st n (z_up h a (.inl (0, N, .inl (upd f k x)))) mc ms Q) : zGo K l d M pc ls (.int x :: .int i :: .ref a :: st) n h mc ms Q := zg_iastore ha hc hi.1 hd (by rw [hi.2]; exact kk)
theorem zi_bastore {K : zK} {l : Launch} {d : Nat} {M : zM} {pc : Nat} {ls : List (Nat × Value)} {st : List Value} {n : Nat} {h : zH} {mc ms : Nat} {Q : zQ} {a N k : Nat} {f : Nat → Int32} {i x : Int32} (ha : a < n) (hc : h a = .inl (1, N, .inl f)) (hi : zIx i N k) (hd : decode M.2.1 pc = .ok (.bastore, 1)) (kk : zGo K l d M (pc + 1) ls st n (z_up h a (.inl (1, N, .inl (upd f k x.toInt8.toInt32)))) mc ms Q) : zGo K l d M pc ls (.int x :: .int i :: .ref a :: st) n h mc ms Q := zg_bastore ha hc hi.1 hd (by rw [hi.2, vp_nar_byte]; exact kk)
theorem zi_zastore {K : zK} {l : Launch} {d : Nat} {M : zM} {pc : Nat} {ls : List (Nat × Value)} {st : List Value} {n : Nat} {h : zH} {mc ms : Nat} {Q : zQ} {a N k : Nat} {f : Nat → Int32} {i x y : Int32} (ha : a < n) (hc : h a = .inl (3, N, .inl f)) (hi : zIx i N k) (hy : vp_nar .boolean x = y) (hd : decode M.2.1 pc = .ok (.bastore, 1)) (kk : zGo K l d M (pc + 1) ls st n (z_up h a (.inl (3, N, .inl (upd f k y)))) mc ms Q) : zGo K l d M pc ls (.int x :: .int i :: .ref a :: st) n h mc ms Q := zg_zastore ha hc hi.1 hd (by rw [hi.2, hy]; exact kk)
theorem zi_lastore {K : zK} {l : Launch} {d : Nat} {M : zM} {pc : Nat} {ls : List (Nat × Value)} {st : List Value} {n : Nat} {h : zH} {mc ms : Nat} {Q : zQ} {a N k : Nat} {f : Nat → Int64} {i : Int32} {x : Int64} (ha : a < n) (hc : h a = .inl (2, N, .inr (.inl f))) (hi : zIx i N k) (hd : decode M.2.1 pc = .ok (.lastore, 1)) (kk : zGo K l d M (pc + 1) ls st n (z_up h a (.inl (2, N, .inr (.inl (vp_updL f k x))))) mc ms Q) : zGo K l d M pc ls (.long x :: .int i :: .ref a :: st) n h mc ms Q := zg_lastore ha hc hi.1 hd (by rw [hi.2]; exact kk)
theorem zi_sload {K : zK} {l : Launch} {d : Nat} {M : zM} {pc : Nat} {ls : List (Nat × Value)} {st : List Value} {n : Nat} {h : zH} {mc ms : Nat} {Q : zQ} {i : Int32} {k : Nat} (hi : zIx i K.2.2.2.2.2.1 k) (hd : decode M.2.1 pc = .ok (.iaload, 1)) (kk : zGo K l d M (pc + 1) ls (.int (K.2.2.2.2.2.2 k) :: st) n h mc ms Q) : zGo K l d M pc ls (.int i :: .ref 2000 :: st) n h mc ms Q := zg_sload hi.1 hd (by rw [hi.2]; exact kk)

