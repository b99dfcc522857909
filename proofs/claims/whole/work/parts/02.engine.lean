/-! THE ENGINE: a small machine of its own over an abstract heap (cells by numbers 0, 1, ..), each of its steps a row of the kit. -/
abbrev zK : Type := va_G × (Nat → ClassId) × (Nat → Nat) × (Nat → Nat) × Nat × Nat × (Nat → Int32)
abbrev zM : Type := MethodName × ByteArray × Nat × Option FieldType
abbrev zH : Type := Nat → va_E
abbrev zQ : Type := Option Value → Nat → zH → Prop
def z_all : List Cond := lw_tbl.filter goodWord
theorem z_in {w : Cond} (h : w ∈ lw_tbl) (g : goodWord w = true) : w ∈ z_all := List.mem_filter.mpr ⟨h, g⟩
theorem z_good {w : Cond} (h : w ∈ z_all) : goodWord w = true := (List.mem_filter.mp h).2
def z_tys (K : zK) : List (ClassId × FieldType) := [(K.2.1 0, .int), (K.2.1 1, .byte), (K.2.1 2, .long), (K.2.1 3, .boolean), (K.2.1 4, .object RX3)]
def z_ad (K : zK) (ad : Nat → Nat) (a : Nat) : Nat := if a < 1000 then ad a else if a = 2000 then K.2.2.2.2.1 else K.2.2.1 (a - 1000)
def z_v (K : zK) (ad : Nat → Nat) : Value → Value
  | .ref a => .ref (z_ad K ad a)
  | v => v
def z_e (K : zK) (ad : Nat → Nat) : va_E → va_E
  | .inl (t, n, .inr (.inr (.inr (.inr f)))) => .inl (K.2.1 t, n, .inr (.inr (.inr (.inr (fun j => (f j).map (z_ad K ad))))))
  | .inl (t, x) => .inl (K.2.1 t, x)
  | .inr (c, fs) => .inr (c, fs.map (z_v K ad))
def z_w (K : zK) (ad : Nat → Nat) (n : Nat) (h : zH) : va_W := (List.range n).map (fun i => (z_ad K ad i, z_e K ad (h i)))
def z_up (h : zH) (k : Nat) (e : va_E) : zH := fun j => if j = k then e else h j
theorem z_up_self (h : zH) (k : Nat) (e : va_E) : z_up h k e k = e := if_pos rfl
theorem z_up_ne {h : zH} {k j : Nat} {e : va_E} (hj : j ≠ k) : z_up h k e j = h j := if_neg hj
theorem z_up_up (h : zH) (k : Nat) (a b : va_E) : z_up (z_up h k a) k b = z_up h k b := by
  funext j
  simp only [z_up]
  split <;> rfl
theorem z_up_id {h : zH} {k : Nat} {e : va_E} (he : h k = e) : z_up h k e = h := by
  funext j
  simp only [z_up]
  split
  · next q => rw [q, he]
  · rfl
theorem z_w_at {K : zK} {ad : Nat → Nat} {n k : Nat} {h : zH} (hk : k < n) : (z_w K ad n h)[k]? = some (z_ad K ad k, z_e K ad (h k)) := by
  simp [z_w, hk]
theorem z_w_inv {K : zK} {ad : Nat → Nat} {n k : Nat} {h : zH} {q : Nat × va_E} (hk : (z_w K ad n h)[k]? = some q) : k < n ∧ q = (z_ad K ad k, z_e K ad (h k)) := by
  have hl : k < n := by
    have := (List.getElem?_eq_some_iff.mp hk).1
    simpa [z_w] using this
  rw [z_w_at hl] at hk
  exact ⟨hl, (Option.some.inj hk).symm⟩
theorem z_w_set {K : zK} {ad : Nat → Nat} {n k : Nat} {h : zH} {e : va_E} : (z_w K ad n h).set k (z_ad K ad k, z_e K ad e) = z_w K ad n (z_up h k e) := by
  apply List.ext_getElem?
  intro j
  by_cases hj : j < n
  · rw [z_w_at hj]
    by_cases hk : j = k
    · subst hk
      rw [List.getElem?_set_self (by simpa [z_w] using hj), z_up_self]
    · rw [List.getElem?_set_ne (Ne.symm hk), z_w_at hj, z_up_ne hk]
  · have l1 : ((z_w K ad n h).set k (z_ad K ad k, z_e K ad e)).length ≤ j := by simp [z_w]; omega
    have l2 : (z_w K ad n (z_up h k e)).length ≤ j := by simp [z_w]; omega
    rw [List.getElem?_eq_none l1, List.getElem?_eq_none l2]
theorem z_v_cat (K : zK) (ad : Nat → Nat) (v : Value) : (z_v K ad v).category = v.category := by cases v <;> rfl
/-- String constants: which entry of the class file, the text, its bytes -/
def z_ix : List Nat := [72, 74, 76, 78, 80]
def z_tx : List String := ["hour", "ringer", "tower", "times", "rest"]
def z_len : List Nat := [4, 6, 5, 5, 4]
def z_byt : List (List Int32) := [[104, 111, 117, 114], [114, 105, 110, 103, 101, 114], [116, 111, 119, 101, 114], [116, 105, 109, 101, 115], [114, 101, 115, 116]]
/-- what the machine's tables and the cells that nobody writes say: classes, Strings, statics, the script -/
def z_I (K : zK) (A : Nat → Prop) (U : State) (H : Heap) : Prop :=
  va_K K.1 vwCl (z_tys K) U ∧ vk_S 5 z_len z_byt K.2.2.1 K.2.2.2.1 A U H ∧ (∀ i : Nat, i < 5 → vk_R RX4 (z_ix.getD i 0) (z_tx.getD i "") (K.2.2.1 i) U) ∧
  va_Z "java/lang/String" "COMPACT_STRINGS" "Z" (.int 1) A U H ∧ va_Zq "jdk/internal/util/Preconditions" "SIOOBE_FORMATTER" "Ljava/util/function/BiFunction;" A U H ∧
  va_X K.2.2.2.2.1 K.2.2.2.2.2.1 K.2.2.2.2.2.2 U H ∧ K.2.2.2.2.1 < H.size ∧ ¬ A K.2.2.2.2.1
theorem z_I.call {K : zK} {A B : Nat → Prop} {s U : State} {H : Heap} {locs : List Loc} (h : z_I K A s s.heap) (hS : va_S A s.heap H locs) (hB : ∀ q, B q → A q) (hW : s.WarmedH U.vm) : z_I K B U H := by
  obtain ⟨h1, h2, h3, h4, h5, h6, h7, h8⟩ := h
  have al : s.vm.Alike U.vm := hW.alike
  exact ⟨h1.moved al, ((h2.kept hS.2.1).narrow hB).moved al, fun i hi => (h3 i hi).warm hW, ((h4.kept hS.2.1).narrow hB).moved al, ((h5.kept hS.2.1).narrow hB).moved al, (h6.kept (hS.2.1 _ h7 h8)).moved al, Nat.lt_of_lt_of_le h7 hS.1, fun q => h8 (hB _ q)⟩
theorem z_I.calling {K : zK} {A : Nat → Prop} {U : State} {H : Heap} (a : Array Value) (g : JFrame) (mk : MethodId) (h : z_I K A U H) : z_I K A (U.calling g mk a) H := by
  obtain ⟨h1, h2, h3, h4, h5, h6, h7, h8⟩ := h
  have al : U.vm.Alike (U.calling g mk a).vm := Vm.Alike.refl U.vm
  exact ⟨h1.moved al, h2.moved al, fun i hi => (h3 i hi).same rfl, h4.moved al, h5.moved al, h6.moved al, h7, h8⟩
def z_ws (M : zM) : List Cond := .code M.1 M.2.1 M.2.2.1 M.2.2.2 :: z_all
def z_rm (d mc ms : Nat) : Room := { frames := d, cells := mc, slots := ms, locals := 64 * d }
def z_Qc (K : zK) (Q : zQ) (ad : Nat → Nat) (n : Nat) (A : Nat → Prop) : Array Value → State → Outcome → State → Prop := fun _ st o t =>
  (∃ (v : Option Value) (n' : Nat) (h' : zH) (ad' : Nat → Nat), o = .returned (v.map (z_v K ad')) ∧ Q v n' h' ∧ n ≤ n' ∧ (∀ k, k < n → ad' k = ad k) ∧ (n' = n → ad' = ad) ∧ va_P K.1 vwCl (z_w K ad' n' h') t.heap ∧ va_D A (z_w K ad' n' h')) ∧ va_F A st t
def z_Pc (K : zK) (ad : Nat → Nat) (n : Nat) (h : zH) (sz : Nat) (av : List Value) : Array Value → State → Prop :=
  va_Pc (av.map (z_v K ad)) (fun U => U.heap.size = sz ∧ va_P K.1 vwCl (z_w K ad n h) U.heap ∧ z_I K (va_A (z_w K ad n h) sz) U U.heap ∧ va_D (fun _ => True) (z_w K ad n h))
/-- method M, called with av over the heap h of n cells, comes back with Q; d: how deep its calls go; mc, ms: what it may make -/
def zRuns (K : zK) (l : Launch) (d : Nat) (M : zM) (av : List Value) (n : Nat) (h : zH) (mc ms : Nat) (Q : zQ) : Prop :=
  ∀ (ad : Nat → Nat) (sz : Nat), Met l M.1 (z_ws M) (z_rm d mc ms) (z_Pc K ad n h sz av) (z_Qc K Q ad n (va_A (z_w K ad n h) sz)) mc ms (va_A (z_w K ad n h) sz)
def zC (K : zK) (d : Nat) (M : zM) (p : Program) (R : Room) (s : State) (m : MethodId) (args : Array Value) (meth : Method) (c : Code) (A : Nat → Prop) (MC MS : Nat) : Prop :=
  p.tables.exec = Jvm.exec ∧ c.code = M.2.1 ∧ meth.sig.returnType = M.2.2.2 ∧ c.maxLocals = M.2.2.1 ∧ s.vm.findClass M.1.cls = some m.cls ∧ meth.name = M.1.name ∧ (∀ w ∈ z_all, w.before args s = true) ∧ meth.locks = false ∧
  z_I K A s s.heap ∧ (∀ q, s.heap.size ≤ q → A q) ∧ d ≤ R.frames ∧ 64 * d ≤ R.locals ∧ MC ≤ R.cells ∧ MS ≤ R.slots
def zD (K : zK) (M : zM) (A : Nat → Prop) (s : State) (n0 : Nat) (ad0 ad : Nat → Nat) (n : Nat) (h : zH) (H : Heap) (locs : List Loc) (cells slots mc ms MC MS : Nat) (ls : List (Nat × Value)) (lsA : Array Slot) : Prop :=
  n0 ≤ n ∧ (∀ k, k < n0 → ad k = ad0 k) ∧ (n = n0 → ad = ad0) ∧ cells + mc ≤ MC ∧ slots + ms ≤ MS ∧ va_P K.1 vwCl (z_w K ad n h) H ∧ va_D A (z_w K ad n h) ∧ va_S A s.heap H locs ∧ lv_has lsA M.2.2.1 (ls.map (fun q => (q.1, z_v K ad q.2)))
/-- M, at pc with locals ls and stack st over the heap h, comes to its end with Q -/
def zGo (K : zK) (l : Launch) (d : Nat) (M : zM) (pc : Nat) (ls : List (Nat × Value)) (st : List Value) (n : Nat) (h : zH) (mc ms : Nat) (Q : zQ) : Prop :=
  ∀ (p : Program) (e : Env) (R : Room) (s : State) (m : MethodId) (args : Array Value) (below : List Frame) (meth : Method) (c : Code) (A : Nat → Prop) (n0 : Nat) (ad0 ad : Nat → Nat) (H : Heap) (locs : List Loc) (cells slots MC MS : Nat) (lsA : Array Slot),
    zC K d M p R s m args meth c A MC MS → zD K M A s n0 ad0 ad n h H locs cells slots mc ms MC MS ls lsA →
    W p l e R s m args below meth c H locs cells slots (MQ below (z_Qc K Q ad0 n0 A) args s MC MS A) (F0 m pc lsA (st.map (z_v K ad)))
def zget : List (Nat × Value) → Nat → Option Value
  | [], _ => none
  | (j, v) :: t, i => if j = i then some v else zget t i
theorem zget_mem {ls : List (Nat × Value)} {i : Nat} {v : Value} (h : zget ls i = some v) : (i, v) ∈ ls := by
  induction ls with
  | nil => cases h
  | cons q t ih =>
    obtain ⟨j, w⟩ := q
    simp only [zget] at h
    split at h
    · next e => cases h; rw [e]; exact List.mem_cons_self
    · exact List.mem_cons_of_mem _ (ih h)
def zins : List (Nat × Value) → Nat → Value → List (Nat × Value)
  | [], i, v => [(i, v)]
  | (j, w) :: t, i, v => if i < j then (i, v) :: (j, w) :: t else (j, w) :: zins t i v
theorem zins_mem {l : List (Nat × Value)} {i : Nat} {v : Value} {q : Nat × Value} (h : q ∈ zins l i v) : q ∈ (i, v) :: l := by
  induction l with
  | nil => exact h
  | cons x t ih =>
    obtain ⟨j, w⟩ := x
    simp only [zins] at h
    split at h
    · exact h
    · rcases List.mem_cons.mp h with h | h
      · exact List.mem_cons_of_mem _ (List.mem_cons.mpr (Or.inl h))
      · rcases List.mem_cons.mp (ih h) with h | h
        · exact List.mem_cons.mpr (Or.inl h)
        · exact List.mem_cons_of_mem _ (List.mem_cons_of_mem _ h)
def zset1 (ls : List (Nat × Value)) (i : Nat) (v : Value) : List (Nat × Value) := zins (ls.filter (fun q => !(q.1 == i) && !(q.1 + 1 == i && q.2.category == 2))) i v
def zset2 (ls : List (Nat × Value)) (i : Nat) (v : Value) : List (Nat × Value) := zins (ls.filter (fun q => !(q.1 == i) && (!(q.1 == i + 1) && !(q.1 + 1 == i && q.2.category == 2)))) i v
theorem z_zset1 {K : zK} {ad : Nat → Nat} {nL i : Nat} {v : Value} {ls : List (Nat × Value)} {lsA : Array Slot} (h : lv_has lsA nL ((i, z_v K ad v) :: (ls.map (fun q => (q.1, z_v K ad q.2))).filter (fun q => !(q.1 == i) && !(q.1 + 1 == i && q.2.category == 2)))) : lv_has lsA nL ((zset1 ls i v).map (fun q => (q.1, z_v K ad q.2))) := by
  refine ⟨h.1, h.2.1, fun q hq => h.2.2 q ?_⟩
  obtain ⟨x, hx, rfl⟩ := List.mem_map.mp hq
  rcases List.mem_cons.mp (zins_mem hx) with rfl | hx
  · exact List.mem_cons_self
  · obtain ⟨h1, h2⟩ := List.mem_filter.mp hx
    refine List.mem_cons_of_mem _ (List.mem_filter.mpr ⟨List.mem_map.mpr ⟨x, h1, rfl⟩, ?_⟩)
    simp only [z_v_cat]
    exact h2
theorem z_zset2 {K : zK} {ad : Nat → Nat} {nL i : Nat} {v : Value} {ls : List (Nat × Value)} {lsA : Array Slot} (h : lv_has lsA nL ((i, z_v K ad v) :: (ls.map (fun q => (q.1, z_v K ad q.2))).filter (fun q => !(q.1 == i) && (!(q.1 == i + 1) && !(q.1 + 1 == i && q.2.category == 2))))) : lv_has lsA nL ((zset2 ls i v).map (fun q => (q.1, z_v K ad q.2))) := by
  refine ⟨h.1, h.2.1, fun q hq => h.2.2 q ?_⟩
  obtain ⟨x, hx, rfl⟩ := List.mem_map.mp hq
  rcases List.mem_cons.mp (zins_mem hx) with rfl | hx
  · exact List.mem_cons_self
  · obtain ⟨h1, h2⟩ := List.mem_filter.mp hx
    refine List.mem_cons_of_mem _ (List.mem_filter.mpr ⟨List.mem_map.mpr ⟨x, h1, rfl⟩, ?_⟩)
    simp only [z_v_cat]
    exact h2
theorem z_lv {K : zK} {ad : Nat → Nat} {nL i : Nat} {v : Value} {ls : List (Nat × Value)} {lsA : Array Slot} (h : lv_has lsA nL (ls.map (fun q => (q.1, z_v K ad q.2)))) (hv : zget ls i = some v) : lsA[i]? = some (.val (z_v K ad v)) :=
  h.2.2 (i, z_v K ad v) (List.mem_map.mpr ⟨(i, v), zget_mem hv, rfl⟩)
theorem z_lvk {K : zK} {ad : Nat → Nat} {i : Nat} {v : Value} {ls : List (Nat × Value)} (hv : zget ls i = some v) : ∃ k : Nat, (ls.map (fun q => (q.1, z_v K ad q.2)))[k]? = some (i, z_v K ad v) :=
  List.getElem?_of_mem (List.mem_map.mpr ⟨(i, v), zget_mem hv, rfl⟩)

theorem zg_iconst {K : zK} {l : Launch} {d : Nat} {M : zM} {pc : Nat} {ls : List (Nat × Value)} {st : List Value} {n : Nat} {h : zH} {mc ms : Nat} {Q : zQ} {i : Int}  (hd : decode M.2.1 pc = .ok (.iconst i, 1)) (k : zGo K l d M (pc + 1) ls (.int (Int32.ofInt i) :: st) n h mc ms Q) : zGo K l d M pc ls (st) n h mc ms Q := by
  intro p e R s m args below meth c A n0 ad0 ad H locs cells slots MC MS lsA C D
  exact lv_iconst C.1 C.2.1 hd rfl (k p e R s m args below meth c A n0 ad0 ad H locs cells slots MC MS lsA C D)
theorem zg_bipush {K : zK} {l : Launch} {d : Nat} {M : zM} {pc : Nat} {ls : List (Nat × Value)} {st : List Value} {n : Nat} {h : zH} {mc ms : Nat} {Q : zQ} {i : Int}  (hd : decode M.2.1 pc = .ok (.bipush i, 2)) (k : zGo K l d M (pc + 2) ls (.int (Int8.ofInt i).toInt32 :: st) n h mc ms Q) : zGo K l d M pc ls (st) n h mc ms Q := by
  intro p e R s m args below meth c A n0 ad0 ad H locs cells slots MC MS lsA C D
  exact lv_bipush C.1 C.2.1 hd rfl (k p e R s m args below meth c A n0 ad0 ad H locs cells slots MC MS lsA C D)
theorem zg_sipush {K : zK} {l : Launch} {d : Nat} {M : zM} {pc : Nat} {ls : List (Nat × Value)} {st : List Value} {n : Nat} {h : zH} {mc ms : Nat} {Q : zQ} {i : Int}  (hd : decode M.2.1 pc = .ok (.sipush i, 3)) (k : zGo K l d M (pc + 3) ls (.int (Int16.ofInt i).toInt32 :: st) n h mc ms Q) : zGo K l d M pc ls (st) n h mc ms Q := by
  intro p e R s m args below meth c A n0 ad0 ad H locs cells slots MC MS lsA C D
  exact lv_sipush C.1 C.2.1 hd rfl (k p e R s m args below meth c A n0 ad0 ad H locs cells slots MC MS lsA C D)
theorem zg_lconst {K : zK} {l : Launch} {d : Nat} {M : zM} {pc : Nat} {ls : List (Nat × Value)} {st : List Value} {n : Nat} {h : zH} {mc ms : Nat} {Q : zQ} {i : Fin 2}  (hd : decode M.2.1 pc = .ok (.lconst i, 1)) (k : zGo K l d M (pc + 1) ls (.long (Int64.ofNat (i : Nat)) :: st) n h mc ms Q) : zGo K l d M pc ls (st) n h mc ms Q := by
  intro p e R s m args below meth c A n0 ad0 ad H locs cells slots MC MS lsA C D
  exact lv_lconst C.1 C.2.1 hd rfl (k p e R s m args below meth c A n0 ad0 ad H locs cells slots MC MS lsA C D)
theorem zg_iload_n {K : zK} {l : Launch} {d : Nat} {M : zM} {pc : Nat} {ls : List (Nat × Value)} {st : List Value} {n : Nat} {h : zH} {mc ms : Nat} {Q : zQ} {i : Fin 4} {x : Int32} (hv : zget ls (i : Nat) = some (.int x)) (hd : decode M.2.1 pc = .ok (.iload_n i, 1)) (k : zGo K l d M (pc + 1) ls (.int x :: st) n h mc ms Q) : zGo K l d M pc ls (st) n h mc ms Q := by
  intro p e R s m args below meth c A n0 ad0 ad H locs cells slots MC MS lsA C D
  exact lv_iload_n C.1 C.2.1 hd rfl (z_lv D.2.2.2.2.2.2.2.2 hv) (k p e R s m args below meth c A n0 ad0 ad H locs cells slots MC MS lsA C D)
theorem zg_iload {K : zK} {l : Launch} {d : Nat} {M : zM} {pc : Nat} {ls : List (Nat × Value)} {st : List Value} {n : Nat} {h : zH} {mc ms : Nat} {Q : zQ} {i : Nat} {x : Int32} (hv : zget ls i = some (.int x)) (hd : decode M.2.1 pc = .ok (.iload i, 2)) (k : zGo K l d M (pc + 2) ls (.int x :: st) n h mc ms Q) : zGo K l d M pc ls (st) n h mc ms Q := by
  intro p e R s m args below meth c A n0 ad0 ad H locs cells slots MC MS lsA C D
  exact lv_iload C.1 C.2.1 hd (z_lv D.2.2.2.2.2.2.2.2 hv) (k p e R s m args below meth c A n0 ad0 ad H locs cells slots MC MS lsA C D)
theorem zg_lload_n {K : zK} {l : Launch} {d : Nat} {M : zM} {pc : Nat} {ls : List (Nat × Value)} {st : List Value} {n : Nat} {h : zH} {mc ms : Nat} {Q : zQ} {i : Fin 4} {x : Int64} (hv : zget ls (i : Nat) = some (.long x)) (hd : decode M.2.1 pc = .ok (.lload_n i, 1)) (k : zGo K l d M (pc + 1) ls (.long x :: st) n h mc ms Q) : zGo K l d M pc ls (st) n h mc ms Q := by
  intro p e R s m args below meth c A n0 ad0 ad H locs cells slots MC MS lsA C D
  exact lv_lload_n C.1 C.2.1 hd rfl (z_lv D.2.2.2.2.2.2.2.2 hv) (k p e R s m args below meth c A n0 ad0 ad H locs cells slots MC MS lsA C D)
theorem zg_lload {K : zK} {l : Launch} {d : Nat} {M : zM} {pc : Nat} {ls : List (Nat × Value)} {st : List Value} {n : Nat} {h : zH} {mc ms : Nat} {Q : zQ} {i : Nat} {x : Int64} (hv : zget ls i = some (.long x)) (hd : decode M.2.1 pc = .ok (.lload i, 2)) (k : zGo K l d M (pc + 2) ls (.long x :: st) n h mc ms Q) : zGo K l d M pc ls (st) n h mc ms Q := by
  intro p e R s m args below meth c A n0 ad0 ad H locs cells slots MC MS lsA C D
  exact lv_lload C.1 C.2.1 hd (z_lv D.2.2.2.2.2.2.2.2 hv) (k p e R s m args below meth c A n0 ad0 ad H locs cells slots MC MS lsA C D)
theorem zg_aload_n {K : zK} {l : Launch} {d : Nat} {M : zM} {pc : Nat} {ls : List (Nat × Value)} {st : List Value} {n : Nat} {h : zH} {mc ms : Nat} {Q : zQ} {i : Fin 4} {x : Nat} (hv : zget ls (i : Nat) = some (.ref x)) (hd : decode M.2.1 pc = .ok (.aload_n i, 1)) (k : zGo K l d M (pc + 1) ls (.ref x :: st) n h mc ms Q) : zGo K l d M pc ls (st) n h mc ms Q := by
  intro p e R s m args below meth c A n0 ad0 ad H locs cells slots MC MS lsA C D
  exact lv_aload_n C.1 C.2.1 hd rfl (z_lv D.2.2.2.2.2.2.2.2 hv) (k p e R s m args below meth c A n0 ad0 ad H locs cells slots MC MS lsA C D)
theorem zg_aload {K : zK} {l : Launch} {d : Nat} {M : zM} {pc : Nat} {ls : List (Nat × Value)} {st : List Value} {n : Nat} {h : zH} {mc ms : Nat} {Q : zQ} {i : Nat} {x : Nat} (hv : zget ls i = some (.ref x)) (hd : decode M.2.1 pc = .ok (.aload i, 2)) (k : zGo K l d M (pc + 2) ls (.ref x :: st) n h mc ms Q) : zGo K l d M pc ls (st) n h mc ms Q := by
  intro p e R s m args below meth c A n0 ad0 ad H locs cells slots MC MS lsA C D
  exact lv_aload C.1 C.2.1 hd (z_lv D.2.2.2.2.2.2.2.2 hv) (k p e R s m args below meth c A n0 ad0 ad H locs cells slots MC MS lsA C D)
theorem zg_iadd {K : zK} {l : Launch} {d : Nat} {M : zM} {pc : Nat} {ls : List (Nat × Value)} {st : List Value} {n : Nat} {h : zH} {mc ms : Nat} {Q : zQ} {x y : Int32}  (hd : decode M.2.1 pc = .ok (.iadd, 1)) (k : zGo K l d M (pc + 1) ls (.int (x + y) :: st) n h mc ms Q) : zGo K l d M pc ls (.int y :: .int x :: st) n h mc ms Q := by
  intro p e R s m args below meth c A n0 ad0 ad H locs cells slots MC MS lsA C D
  exact lv_iadd C.1 C.2.1 hd (k p e R s m args below meth c A n0 ad0 ad H locs cells slots MC MS lsA C D)
theorem zg_isub {K : zK} {l : Launch} {d : Nat} {M : zM} {pc : Nat} {ls : List (Nat × Value)} {st : List Value} {n : Nat} {h : zH} {mc ms : Nat} {Q : zQ} {x y : Int32}  (hd : decode M.2.1 pc = .ok (.isub, 1)) (k : zGo K l d M (pc + 1) ls (.int (x - y) :: st) n h mc ms Q) : zGo K l d M pc ls (.int y :: .int x :: st) n h mc ms Q := by
  intro p e R s m args below meth c A n0 ad0 ad H locs cells slots MC MS lsA C D
  exact lv_isub C.1 C.2.1 hd (k p e R s m args below meth c A n0 ad0 ad H locs cells slots MC MS lsA C D)
theorem zg_imul {K : zK} {l : Launch} {d : Nat} {M : zM} {pc : Nat} {ls : List (Nat × Value)} {st : List Value} {n : Nat} {h : zH} {mc ms : Nat} {Q : zQ} {x y : Int32}  (hd : decode M.2.1 pc = .ok (.imul, 1)) (k : zGo K l d M (pc + 1) ls (.int (x * y) :: st) n h mc ms Q) : zGo K l d M pc ls (.int y :: .int x :: st) n h mc ms Q := by
  intro p e R s m args below meth c A n0 ad0 ad H locs cells slots MC MS lsA C D
  exact lv_imul C.1 C.2.1 hd (k p e R s m args below meth c A n0 ad0 ad H locs cells slots MC MS lsA C D)
theorem zg_iand {K : zK} {l : Launch} {d : Nat} {M : zM} {pc : Nat} {ls : List (Nat × Value)} {st : List Value} {n : Nat} {h : zH} {mc ms : Nat} {Q : zQ} {x y : Int32}  (hd : decode M.2.1 pc = .ok (.iand, 1)) (k : zGo K l d M (pc + 1) ls (.int (x &&& y) :: st) n h mc ms Q) : zGo K l d M pc ls (.int y :: .int x :: st) n h mc ms Q := by
  intro p e R s m args below meth c A n0 ad0 ad H locs cells slots MC MS lsA C D
  exact lv_iand C.1 C.2.1 hd (k p e R s m args below meth c A n0 ad0 ad H locs cells slots MC MS lsA C D)
theorem zg_ior {K : zK} {l : Launch} {d : Nat} {M : zM} {pc : Nat} {ls : List (Nat × Value)} {st : List Value} {n : Nat} {h : zH} {mc ms : Nat} {Q : zQ} {x y : Int32}  (hd : decode M.2.1 pc = .ok (.ior, 1)) (k : zGo K l d M (pc + 1) ls (.int (x ||| y) :: st) n h mc ms Q) : zGo K l d M pc ls (.int y :: .int x :: st) n h mc ms Q := by
  intro p e R s m args below meth c A n0 ad0 ad H locs cells slots MC MS lsA C D
  exact lv_ior C.1 C.2.1 hd (k p e R s m args below meth c A n0 ad0 ad H locs cells slots MC MS lsA C D)
theorem zg_ixor {K : zK} {l : Launch} {d : Nat} {M : zM} {pc : Nat} {ls : List (Nat × Value)} {st : List Value} {n : Nat} {h : zH} {mc ms : Nat} {Q : zQ} {x y : Int32}  (hd : decode M.2.1 pc = .ok (.ixor, 1)) (k : zGo K l d M (pc + 1) ls (.int (x ^^^ y) :: st) n h mc ms Q) : zGo K l d M pc ls (.int y :: .int x :: st) n h mc ms Q := by
  intro p e R s m args below meth c A n0 ad0 ad H locs cells slots MC MS lsA C D
  exact lv_ixor C.1 C.2.1 hd (k p e R s m args below meth c A n0 ad0 ad H locs cells slots MC MS lsA C D)
theorem zg_ishl {K : zK} {l : Launch} {d : Nat} {M : zM} {pc : Nat} {ls : List (Nat × Value)} {st : List Value} {n : Nat} {h : zH} {mc ms : Nat} {Q : zQ} {x y : Int32}  (hd : decode M.2.1 pc = .ok (.ishl, 1)) (k : zGo K l d M (pc + 1) ls (.int (x <<< (y &&& 31)) :: st) n h mc ms Q) : zGo K l d M pc ls (.int y :: .int x :: st) n h mc ms Q := by
  intro p e R s m args below meth c A n0 ad0 ad H locs cells slots MC MS lsA C D
  exact lv_ishl C.1 C.2.1 hd (k p e R s m args below meth c A n0 ad0 ad H locs cells slots MC MS lsA C D)
theorem zg_ishr {K : zK} {l : Launch} {d : Nat} {M : zM} {pc : Nat} {ls : List (Nat × Value)} {st : List Value} {n : Nat} {h : zH} {mc ms : Nat} {Q : zQ} {x y : Int32}  (hd : decode M.2.1 pc = .ok (.ishr, 1)) (k : zGo K l d M (pc + 1) ls (.int (x >>> (y &&& 31)) :: st) n h mc ms Q) : zGo K l d M pc ls (.int y :: .int x :: st) n h mc ms Q := by
  intro p e R s m args below meth c A n0 ad0 ad H locs cells slots MC MS lsA C D
  exact lv_ishr C.1 C.2.1 hd (k p e R s m args below meth c A n0 ad0 ad H locs cells slots MC MS lsA C D)
theorem zg_iushr {K : zK} {l : Launch} {d : Nat} {M : zM} {pc : Nat} {ls : List (Nat × Value)} {st : List Value} {n : Nat} {h : zH} {mc ms : Nat} {Q : zQ} {x y : Int32}  (hd : decode M.2.1 pc = .ok (.iushr, 1)) (k : zGo K l d M (pc + 1) ls (.int (x.toUInt32 >>> (y.toUInt32 &&& Int32.toUInt32 31)).toInt32 :: st) n h mc ms Q) : zGo K l d M pc ls (.int y :: .int x :: st) n h mc ms Q := by
  intro p e R s m args below meth c A n0 ad0 ad H locs cells slots MC MS lsA C D
  exact lv_iushr C.1 C.2.1 hd rfl (k p e R s m args below meth c A n0 ad0 ad H locs cells slots MC MS lsA C D)
theorem zg_idiv {K : zK} {l : Launch} {d : Nat} {M : zM} {pc : Nat} {ls : List (Nat × Value)} {st : List Value} {n : Nat} {h : zH} {mc ms : Nat} {Q : zQ} {x y : Int32} (hne : ¬ y = 0) (hd : decode M.2.1 pc = .ok (.idiv, 1)) (k : zGo K l d M (pc + 1) ls (.int (x / y) :: st) n h mc ms Q) : zGo K l d M pc ls (.int y :: .int x :: st) n h mc ms Q := by
  intro p e R s m args below meth c A n0 ad0 ad H locs cells slots MC MS lsA C D
  exact lv_idiv C.1 C.2.1 hd hne (k p e R s m args below meth c A n0 ad0 ad H locs cells slots MC MS lsA C D)
theorem zg_irem {K : zK} {l : Launch} {d : Nat} {M : zM} {pc : Nat} {ls : List (Nat × Value)} {st : List Value} {n : Nat} {h : zH} {mc ms : Nat} {Q : zQ} {x y : Int32} (hne : ¬ y = 0) (hd : decode M.2.1 pc = .ok (.irem, 1)) (k : zGo K l d M (pc + 1) ls (.int (x - x / y * y) :: st) n h mc ms Q) : zGo K l d M pc ls (.int y :: .int x :: st) n h mc ms Q := by
  intro p e R s m args below meth c A n0 ad0 ad H locs cells slots MC MS lsA C D
  exact lv_irem C.1 C.2.1 hd hne (k p e R s m args below meth c A n0 ad0 ad H locs cells slots MC MS lsA C D)
theorem zg_ineg {K : zK} {l : Launch} {d : Nat} {M : zM} {pc : Nat} {ls : List (Nat × Value)} {st : List Value} {n : Nat} {h : zH} {mc ms : Nat} {Q : zQ} {x : Int32}  (hd : decode M.2.1 pc = .ok (.ineg, 1)) (k : zGo K l d M (pc + 1) ls (.int (-x) :: st) n h mc ms Q) : zGo K l d M pc ls (.int x :: st) n h mc ms Q := by
  intro p e R s m args below meth c A n0 ad0 ad H locs cells slots MC MS lsA C D
  exact lv_ineg C.1 C.2.1 hd (k p e R s m args below meth c A n0 ad0 ad H locs cells slots MC MS lsA C D)
theorem zg_ladd {K : zK} {l : Launch} {d : Nat} {M : zM} {pc : Nat} {ls : List (Nat × Value)} {st : List Value} {n : Nat} {h : zH} {mc ms : Nat} {Q : zQ} {x y : Int64}  (hd : decode M.2.1 pc = .ok (.ladd, 1)) (k : zGo K l d M (pc + 1) ls (.long (x + y) :: st) n h mc ms Q) : zGo K l d M pc ls (.long y :: .long x :: st) n h mc ms Q := by
  intro p e R s m args below meth c A n0 ad0 ad H locs cells slots MC MS lsA C D
  exact lv_ladd C.1 C.2.1 hd (k p e R s m args below meth c A n0 ad0 ad H locs cells slots MC MS lsA C D)
theorem zg_lsub {K : zK} {l : Launch} {d : Nat} {M : zM} {pc : Nat} {ls : List (Nat × Value)} {st : List Value} {n : Nat} {h : zH} {mc ms : Nat} {Q : zQ} {x y : Int64}  (hd : decode M.2.1 pc = .ok (.lsub, 1)) (k : zGo K l d M (pc + 1) ls (.long (x - y) :: st) n h mc ms Q) : zGo K l d M pc ls (.long y :: .long x :: st) n h mc ms Q := by
  intro p e R s m args below meth c A n0 ad0 ad H locs cells slots MC MS lsA C D
  exact lv_lsub C.1 C.2.1 hd (k p e R s m args below meth c A n0 ad0 ad H locs cells slots MC MS lsA C D)
theorem zg_land {K : zK} {l : Launch} {d : Nat} {M : zM} {pc : Nat} {ls : List (Nat × Value)} {st : List Value} {n : Nat} {h : zH} {mc ms : Nat} {Q : zQ} {x y : Int64}  (hd : decode M.2.1 pc = .ok (.land, 1)) (k : zGo K l d M (pc + 1) ls (.long (x &&& y) :: st) n h mc ms Q) : zGo K l d M pc ls (.long y :: .long x :: st) n h mc ms Q := by
  intro p e R s m args below meth c A n0 ad0 ad H locs cells slots MC MS lsA C D
  exact lv_land C.1 C.2.1 hd (k p e R s m args below meth c A n0 ad0 ad H locs cells slots MC MS lsA C D)
theorem zg_lor {K : zK} {l : Launch} {d : Nat} {M : zM} {pc : Nat} {ls : List (Nat × Value)} {st : List Value} {n : Nat} {h : zH} {mc ms : Nat} {Q : zQ} {x y : Int64}  (hd : decode M.2.1 pc = .ok (.lor, 1)) (k : zGo K l d M (pc + 1) ls (.long (x ||| y) :: st) n h mc ms Q) : zGo K l d M pc ls (.long y :: .long x :: st) n h mc ms Q := by
  intro p e R s m args below meth c A n0 ad0 ad H locs cells slots MC MS lsA C D
  exact lv_lor C.1 C.2.1 hd (k p e R s m args below meth c A n0 ad0 ad H locs cells slots MC MS lsA C D)
theorem zg_lshl {K : zK} {l : Launch} {d : Nat} {M : zM} {pc : Nat} {ls : List (Nat × Value)} {st : List Value} {n : Nat} {h : zH} {mc ms : Nat} {Q : zQ} {x : Int64} {y : Int32}  (hd : decode M.2.1 pc = .ok (.lshl, 1)) (k : zGo K l d M (pc + 1) ls (.long (x <<< (y.toInt64 &&& 63)) :: st) n h mc ms Q) : zGo K l d M pc ls (.int y :: .long x :: st) n h mc ms Q := by
  intro p e R s m args below meth c A n0 ad0 ad H locs cells slots MC MS lsA C D
  exact lv_lshl C.1 C.2.1 hd rfl (k p e R s m args below meth c A n0 ad0 ad H locs cells slots MC MS lsA C D)
theorem zg_lshr {K : zK} {l : Launch} {d : Nat} {M : zM} {pc : Nat} {ls : List (Nat × Value)} {st : List Value} {n : Nat} {h : zH} {mc ms : Nat} {Q : zQ} {x : Int64} {y : Int32}  (hd : decode M.2.1 pc = .ok (.lshr, 1)) (k : zGo K l d M (pc + 1) ls (.long (x >>> (y.toInt64 &&& 63)) :: st) n h mc ms Q) : zGo K l d M pc ls (.int y :: .long x :: st) n h mc ms Q := by
  intro p e R s m args below meth c A n0 ad0 ad H locs cells slots MC MS lsA C D
  exact lv_lshr C.1 C.2.1 hd rfl (k p e R s m args below meth c A n0 ad0 ad H locs cells slots MC MS lsA C D)
theorem zg_lushr {K : zK} {l : Launch} {d : Nat} {M : zM} {pc : Nat} {ls : List (Nat × Value)} {st : List Value} {n : Nat} {h : zH} {mc ms : Nat} {Q : zQ} {x : Int64} {y : Int32}  (hd : decode M.2.1 pc = .ok (.lushr, 1)) (k : zGo K l d M (pc + 1) ls (.long (x.toUInt64 >>> (y.toInt64.toUInt64 &&& Int64.toUInt64 63)).toInt64 :: st) n h mc ms Q) : zGo K l d M pc ls (.int y :: .long x :: st) n h mc ms Q := by
  intro p e R s m args below meth c A n0 ad0 ad H locs cells slots MC MS lsA C D
  exact lv_lushr C.1 C.2.1 hd rfl (k p e R s m args below meth c A n0 ad0 ad H locs cells slots MC MS lsA C D)
theorem zg_lcmp {K : zK} {l : Launch} {d : Nat} {M : zM} {pc : Nat} {ls : List (Nat × Value)} {st : List Value} {n : Nat} {h : zH} {mc ms : Nat} {Q : zQ} {x y : Int64}  (hd : decode M.2.1 pc = .ok (.lcmp, 1)) (k : zGo K l d M (pc + 1) ls (.int (lg_cmp x y) :: st) n h mc ms Q) : zGo K l d M pc ls (.long y :: .long x :: st) n h mc ms Q := by
  intro p e R s m args below meth c A n0 ad0 ad H locs cells slots MC MS lsA C D
  exact W.lcmp C.1 C.2.1 hd (k p e R s m args below meth c A n0 ad0 ad H locs cells slots MC MS lsA C D)
theorem zg_i2l {K : zK} {l : Launch} {d : Nat} {M : zM} {pc : Nat} {ls : List (Nat × Value)} {st : List Value} {n : Nat} {h : zH} {mc ms : Nat} {Q : zQ} {x : Int32}  (hd : decode M.2.1 pc = .ok (.i2l, 1)) (k : zGo K l d M (pc + 1) ls (.long x.toInt64 :: st) n h mc ms Q) : zGo K l d M pc ls (.int x :: st) n h mc ms Q := by
  intro p e R s m args below meth c A n0 ad0 ad H locs cells slots MC MS lsA C D
  exact lv_i2l C.1 C.2.1 hd rfl (k p e R s m args below meth c A n0 ad0 ad H locs cells slots MC MS lsA C D)
theorem zg_l2i {K : zK} {l : Launch} {d : Nat} {M : zM} {pc : Nat} {ls : List (Nat × Value)} {st : List Value} {n : Nat} {h : zH} {mc ms : Nat} {Q : zQ} {x : Int64}  (hd : decode M.2.1 pc = .ok (.l2i, 1)) (k : zGo K l d M (pc + 1) ls (.int x.toInt32 :: st) n h mc ms Q) : zGo K l d M pc ls (.long x :: st) n h mc ms Q := by
  intro p e R s m args below meth c A n0 ad0 ad H locs cells slots MC MS lsA C D
  exact lv_l2i C.1 C.2.1 hd rfl (k p e R s m args below meth c A n0 ad0 ad H locs cells slots MC MS lsA C D)
theorem zg_i2b {K : zK} {l : Launch} {d : Nat} {M : zM} {pc : Nat} {ls : List (Nat × Value)} {st : List Value} {n : Nat} {h : zH} {mc ms : Nat} {Q : zQ} {x : Int32}  (hd : decode M.2.1 pc = .ok (.i2b, 1)) (k : zGo K l d M (pc + 1) ls (.int x.toInt8.toInt32 :: st) n h mc ms Q) : zGo K l d M pc ls (.int x :: st) n h mc ms Q := by
  intro p e R s m args below meth c A n0 ad0 ad H locs cells slots MC MS lsA C D
  exact lv_i2b C.1 C.2.1 hd rfl (k p e R s m args below meth c A n0 ad0 ad H locs cells slots MC MS lsA C D)
theorem zg_pop {K : zK} {l : Launch} {d : Nat} {M : zM} {pc : Nat} {ls : List (Nat × Value)} {st : List Value} {n : Nat} {h : zH} {mc ms : Nat} {Q : zQ} {x : Value} (hx : x.category = 1) (hd : decode M.2.1 pc = .ok (.pop, 1)) (k : zGo K l d M (pc + 1) ls (st) n h mc ms Q) : zGo K l d M pc ls (x :: st) n h mc ms Q := by
  intro p e R s m args below meth c A n0 ad0 ad H locs cells slots MC MS lsA C D
  exact lv_pop C.1 C.2.1 hd (by rw [z_v_cat]; exact hx) (k p e R s m args below meth c A n0 ad0 ad H locs cells slots MC MS lsA C D)
theorem zg_dup {K : zK} {l : Launch} {d : Nat} {M : zM} {pc : Nat} {ls : List (Nat × Value)} {st : List Value} {n : Nat} {h : zH} {mc ms : Nat} {Q : zQ} {x : Value} (hx : x.category = 1) (hd : decode M.2.1 pc = .ok (.dup, 1)) (k : zGo K l d M (pc + 1) ls (x :: x :: st) n h mc ms Q) : zGo K l d M pc ls (x :: st) n h mc ms Q := by
  intro p e R s m args below meth c A n0 ad0 ad H locs cells slots MC MS lsA C D
  exact lv_dup C.1 C.2.1 hd (by rw [z_v_cat]; exact hx) (k p e R s m args below meth c A n0 ad0 ad H locs cells slots MC MS lsA C D)
theorem zg_dup2 {K : zK} {l : Launch} {d : Nat} {M : zM} {pc : Nat} {ls : List (Nat × Value)} {st : List Value} {n : Nat} {h : zH} {mc ms : Nat} {Q : zQ} {x y : Value} (hx : x.category = 1) (hy : y.category = 1) (hd : decode M.2.1 pc = .ok (.dup2, 1)) (k : zGo K l d M (pc + 1) ls (x :: y :: x :: y :: st) n h mc ms Q) : zGo K l d M pc ls (x :: y :: st) n h mc ms Q := by
  intro p e R s m args below meth c A n0 ad0 ad H locs cells slots MC MS lsA C D
  exact lv_dup2_11 C.1 C.2.1 hd (by rw [z_v_cat]; exact hx) (by rw [z_v_cat]; exact hy) (k p e R s m args below meth c A n0 ad0 ad H locs cells slots MC MS lsA C D)
theorem zg_istore_n {K : zK} {l : Launch} {d : Nat} {M : zM} {pc : Nat} {ls : List (Nat × Value)} {st : List Value} {n : Nat} {h : zH} {mc ms : Nat} {Q : zQ} {i : Fin 4} {x : Int32} (hi : (i : Nat) < M.2.2.1) (hd : decode M.2.1 pc = .ok (.istore_n i, 1)) (k : zGo K l d M (pc + 1) (zset1 ls (i : Nat) (.int x)) st n h mc ms Q) : zGo K l d M pc ls (.int x :: st) n h mc ms Q := by
  intro p e R s m args below meth c A n0 ad0 ad H locs cells slots MC MS lsA C D
  obtain ⟨D1, D2, D3, D4, D5, D6, D7, D8, D9⟩ := D
  exact lv_istore_n C.1 C.2.1 hd rfl D9 hi rfl (fun ls1 hl1 => k p e R s m args below meth c A n0 ad0 ad H locs cells slots MC MS ls1 C ⟨D1, D2, D3, D4, D5, D6, D7, D8, z_zset1 hl1⟩)
theorem zg_istore {K : zK} {l : Launch} {d : Nat} {M : zM} {pc : Nat} {ls : List (Nat × Value)} {st : List Value} {n : Nat} {h : zH} {mc ms : Nat} {Q : zQ} {i : Nat} {x : Int32} (hi : i < M.2.2.1) (hd : decode M.2.1 pc = .ok (.istore i, 2)) (k : zGo K l d M (pc + 2) (zset1 ls i (.int x)) st n h mc ms Q) : zGo K l d M pc ls (.int x :: st) n h mc ms Q := by
  intro p e R s m args below meth c A n0 ad0 ad H locs cells slots MC MS lsA C D
  obtain ⟨D1, D2, D3, D4, D5, D6, D7, D8, D9⟩ := D
  exact lv_istore C.1 C.2.1 hd D9 hi rfl (fun ls1 hl1 => k p e R s m args below meth c A n0 ad0 ad H locs cells slots MC MS ls1 C ⟨D1, D2, D3, D4, D5, D6, D7, D8, z_zset1 hl1⟩)
theorem zg_astore_n {K : zK} {l : Launch} {d : Nat} {M : zM} {pc : Nat} {ls : List (Nat × Value)} {st : List Value} {n : Nat} {h : zH} {mc ms : Nat} {Q : zQ} {i : Fin 4} {x : Nat} (hi : (i : Nat) < M.2.2.1) (hd : decode M.2.1 pc = .ok (.astore_n i, 1)) (k : zGo K l d M (pc + 1) (zset1 ls (i : Nat) (.ref x)) st n h mc ms Q) : zGo K l d M pc ls (.ref x :: st) n h mc ms Q := by
  intro p e R s m args below meth c A n0 ad0 ad H locs cells slots MC MS lsA C D
  obtain ⟨D1, D2, D3, D4, D5, D6, D7, D8, D9⟩ := D
  exact lv_astore_n C.1 C.2.1 hd rfl D9 hi rfl (fun ls1 hl1 => k p e R s m args below meth c A n0 ad0 ad H locs cells slots MC MS ls1 C ⟨D1, D2, D3, D4, D5, D6, D7, D8, z_zset1 hl1⟩)
theorem zg_astore {K : zK} {l : Launch} {d : Nat} {M : zM} {pc : Nat} {ls : List (Nat × Value)} {st : List Value} {n : Nat} {h : zH} {mc ms : Nat} {Q : zQ} {i : Nat} {x : Nat} (hi : i < M.2.2.1) (hd : decode M.2.1 pc = .ok (.astore i, 2)) (k : zGo K l d M (pc + 2) (zset1 ls i (.ref x)) st n h mc ms Q) : zGo K l d M pc ls (.ref x :: st) n h mc ms Q := by
  intro p e R s m args below meth c A n0 ad0 ad H locs cells slots MC MS lsA C D
  obtain ⟨D1, D2, D3, D4, D5, D6, D7, D8, D9⟩ := D
  exact lv_astore C.1 C.2.1 hd D9 hi rfl (fun ls1 hl1 => k p e R s m args below meth c A n0 ad0 ad H locs cells slots MC MS ls1 C ⟨D1, D2, D3, D4, D5, D6, D7, D8, z_zset1 hl1⟩)
theorem zg_lstore_n {K : zK} {l : Launch} {d : Nat} {M : zM} {pc : Nat} {ls : List (Nat × Value)} {st : List Value} {n : Nat} {h : zH} {mc ms : Nat} {Q : zQ} {i : Fin 4} {x : Int64} (hi : (i : Nat) + 1 < M.2.2.1) (hd : decode M.2.1 pc = .ok (.lstore_n i, 1)) (k : zGo K l d M (pc + 1) (zset2 ls (i : Nat) (.long x)) st n h mc ms Q) : zGo K l d M pc ls (.long x :: st) n h mc ms Q := by
  intro p e R s m args below meth c A n0 ad0 ad H locs cells slots MC MS lsA C D
  obtain ⟨D1, D2, D3, D4, D5, D6, D7, D8, D9⟩ := D
  exact lv_lstore_n C.1 C.2.1 hd rfl D9 hi rfl (fun ls1 hl1 => k p e R s m args below meth c A n0 ad0 ad H locs cells slots MC MS ls1 C ⟨D1, D2, D3, D4, D5, D6, D7, D8, z_zset2 hl1⟩)
theorem zg_lstore {K : zK} {l : Launch} {d : Nat} {M : zM} {pc : Nat} {ls : List (Nat × Value)} {st : List Value} {n : Nat} {h : zH} {mc ms : Nat} {Q : zQ} {i : Nat} {x : Int64} (hi : i + 1 < M.2.2.1) (hd : decode M.2.1 pc = .ok (.lstore i, 2)) (k : zGo K l d M (pc + 2) (zset2 ls i (.long x)) st n h mc ms Q) : zGo K l d M pc ls (.long x :: st) n h mc ms Q := by
  intro p e R s m args below meth c A n0 ad0 ad H locs cells slots MC MS lsA C D
  obtain ⟨D1, D2, D3, D4, D5, D6, D7, D8, D9⟩ := D
  exact lv_lstore C.1 C.2.1 hd D9 hi rfl (fun ls1 hl1 => k p e R s m args below meth c A n0 ad0 ad H locs cells slots MC MS ls1 C ⟨D1, D2, D3, D4, D5, D6, D7, D8, z_zset2 hl1⟩)
theorem zg_iinc {K : zK} {l : Launch} {d : Nat} {M : zM} {pc : Nat} {ls : List (Nat × Value)} {st : List Value} {n : Nat} {h : zH} {mc ms : Nat} {Q : zQ} {i : Nat} {j : Int} {x : Int32} (hv : zget ls i = some (.int x)) (hi : i < M.2.2.1) (hd : decode M.2.1 pc = .ok (.iinc i j, 3)) (k : zGo K l d M (pc + 3) (zset1 ls i (.int (x + Int32.ofInt j))) st n h mc ms Q) : zGo K l d M pc ls st n h mc ms Q := by
  intro p e R s m args below meth c A n0 ad0 ad H locs cells slots MC MS lsA C D
  obtain ⟨D1, D2, D3, D4, D5, D6, D7, D8, D9⟩ := D
  obtain ⟨kk, hk⟩ := z_lvk (K := K) (ad := ad) hv
  exact lv_iinc C.1 C.2.1 hd D9 hk rfl hi rfl (fun ls1 hl1 => k p e R s m args below meth c A n0 ad0 ad H locs cells slots MC MS ls1 C ⟨D1, D2, D3, D4, D5, D6, D7, D8, z_zset1 hl1⟩)
theorem zg_icmp_eq {K : zK} {l : Launch} {d : Nat} {M : zM} {pc : Nat} {ls : List (Nat × Value)} {st : List Value} {n : Nat} {h : zH} {mc ms : Nat} {Q : zQ} {x y : Int32} {off : Int} {tgt : Nat} (ht : (pc : Int) + off = (tgt : Int)) (hd : decode M.2.1 pc = .ok (.if_icmp .eq off, 3)) (kt : x = y → zGo K l d M tgt ls st n h mc ms Q) (kf : ¬ x = y → zGo K l d M (pc + 3) ls st n h mc ms Q) : zGo K l d M pc ls (.int y :: .int x :: st) n h mc ms Q := by
  intro p e R s m args below meth c A n0 ad0 ad H locs cells slots MC MS lsA C D
  exact lv_icmp_eq C.1 C.2.1 hd ht (fun q => kt q p e R s m args below meth c A n0 ad0 ad H locs cells slots MC MS lsA C D) (fun q => kf q p e R s m args below meth c A n0 ad0 ad H locs cells slots MC MS lsA C D)
theorem zg_if_eq {K : zK} {l : Launch} {d : Nat} {M : zM} {pc : Nat} {ls : List (Nat × Value)} {st : List Value} {n : Nat} {h : zH} {mc ms : Nat} {Q : zQ} {x : Int32} {off : Int} {tgt : Nat} (ht : (pc : Int) + off = (tgt : Int)) (hd : decode M.2.1 pc = .ok (.ifCond .eq off, 3)) (kt : x = 0 → zGo K l d M tgt ls st n h mc ms Q) (kf : ¬ x = 0 → zGo K l d M (pc + 3) ls st n h mc ms Q) : zGo K l d M pc ls (.int x :: st) n h mc ms Q := by
  intro p e R s m args below meth c A n0 ad0 ad H locs cells slots MC MS lsA C D
  exact lv_if_eq C.1 C.2.1 hd ht (fun q => kt q p e R s m args below meth c A n0 ad0 ad H locs cells slots MC MS lsA C D) (fun q => kf q p e R s m args below meth c A n0 ad0 ad H locs cells slots MC MS lsA C D)
theorem zg_icmp_ne {K : zK} {l : Launch} {d : Nat} {M : zM} {pc : Nat} {ls : List (Nat × Value)} {st : List Value} {n : Nat} {h : zH} {mc ms : Nat} {Q : zQ} {x y : Int32} {off : Int} {tgt : Nat} (ht : (pc : Int) + off = (tgt : Int)) (hd : decode M.2.1 pc = .ok (.if_icmp .ne off, 3)) (kt : ¬ x = y → zGo K l d M tgt ls st n h mc ms Q) (kf : x = y → zGo K l d M (pc + 3) ls st n h mc ms Q) : zGo K l d M pc ls (.int y :: .int x :: st) n h mc ms Q := by
  intro p e R s m args below meth c A n0 ad0 ad H locs cells slots MC MS lsA C D
  exact lv_icmp_ne C.1 C.2.1 hd ht (fun q => kt q p e R s m args below meth c A n0 ad0 ad H locs cells slots MC MS lsA C D) (fun q => kf q p e R s m args below meth c A n0 ad0 ad H locs cells slots MC MS lsA C D)
theorem zg_if_ne {K : zK} {l : Launch} {d : Nat} {M : zM} {pc : Nat} {ls : List (Nat × Value)} {st : List Value} {n : Nat} {h : zH} {mc ms : Nat} {Q : zQ} {x : Int32} {off : Int} {tgt : Nat} (ht : (pc : Int) + off = (tgt : Int)) (hd : decode M.2.1 pc = .ok (.ifCond .ne off, 3)) (kt : ¬ x = 0 → zGo K l d M tgt ls st n h mc ms Q) (kf : x = 0 → zGo K l d M (pc + 3) ls st n h mc ms Q) : zGo K l d M pc ls (.int x :: st) n h mc ms Q := by
  intro p e R s m args below meth c A n0 ad0 ad H locs cells slots MC MS lsA C D
  exact lv_if_ne C.1 C.2.1 hd ht (fun q => kt q p e R s m args below meth c A n0 ad0 ad H locs cells slots MC MS lsA C D) (fun q => kf q p e R s m args below meth c A n0 ad0 ad H locs cells slots MC MS lsA C D)
theorem zg_icmp_lt {K : zK} {l : Launch} {d : Nat} {M : zM} {pc : Nat} {ls : List (Nat × Value)} {st : List Value} {n : Nat} {h : zH} {mc ms : Nat} {Q : zQ} {x y : Int32} {off : Int} {tgt : Nat} (ht : (pc : Int) + off = (tgt : Int)) (hd : decode M.2.1 pc = .ok (.if_icmp .lt off, 3)) (kt : x < y → zGo K l d M tgt ls st n h mc ms Q) (kf : ¬ x < y → zGo K l d M (pc + 3) ls st n h mc ms Q) : zGo K l d M pc ls (.int y :: .int x :: st) n h mc ms Q := by
  intro p e R s m args below meth c A n0 ad0 ad H locs cells slots MC MS lsA C D
  exact lv_icmp_lt C.1 C.2.1 hd ht (fun q => kt q p e R s m args below meth c A n0 ad0 ad H locs cells slots MC MS lsA C D) (fun q => kf q p e R s m args below meth c A n0 ad0 ad H locs cells slots MC MS lsA C D)
theorem zg_if_lt {K : zK} {l : Launch} {d : Nat} {M : zM} {pc : Nat} {ls : List (Nat × Value)} {st : List Value} {n : Nat} {h : zH} {mc ms : Nat} {Q : zQ} {x : Int32} {off : Int} {tgt : Nat} (ht : (pc : Int) + off = (tgt : Int)) (hd : decode M.2.1 pc = .ok (.ifCond .lt off, 3)) (kt : x < 0 → zGo K l d M tgt ls st n h mc ms Q) (kf : ¬ x < 0 → zGo K l d M (pc + 3) ls st n h mc ms Q) : zGo K l d M pc ls (.int x :: st) n h mc ms Q := by
  intro p e R s m args below meth c A n0 ad0 ad H locs cells slots MC MS lsA C D
  exact lv_if_lt C.1 C.2.1 hd ht (fun q => kt q p e R s m args below meth c A n0 ad0 ad H locs cells slots MC MS lsA C D) (fun q => kf q p e R s m args below meth c A n0 ad0 ad H locs cells slots MC MS lsA C D)
theorem zg_icmp_ge {K : zK} {l : Launch} {d : Nat} {M : zM} {pc : Nat} {ls : List (Nat × Value)} {st : List Value} {n : Nat} {h : zH} {mc ms : Nat} {Q : zQ} {x y : Int32} {off : Int} {tgt : Nat} (ht : (pc : Int) + off = (tgt : Int)) (hd : decode M.2.1 pc = .ok (.if_icmp .ge off, 3)) (kt : y ≤ x → zGo K l d M tgt ls st n h mc ms Q) (kf : ¬ y ≤ x → zGo K l d M (pc + 3) ls st n h mc ms Q) : zGo K l d M pc ls (.int y :: .int x :: st) n h mc ms Q := by
  intro p e R s m args below meth c A n0 ad0 ad H locs cells slots MC MS lsA C D
  exact lv_icmp_ge C.1 C.2.1 hd ht (fun q => kt q p e R s m args below meth c A n0 ad0 ad H locs cells slots MC MS lsA C D) (fun q => kf q p e R s m args below meth c A n0 ad0 ad H locs cells slots MC MS lsA C D)
theorem zg_if_ge {K : zK} {l : Launch} {d : Nat} {M : zM} {pc : Nat} {ls : List (Nat × Value)} {st : List Value} {n : Nat} {h : zH} {mc ms : Nat} {Q : zQ} {x : Int32} {off : Int} {tgt : Nat} (ht : (pc : Int) + off = (tgt : Int)) (hd : decode M.2.1 pc = .ok (.ifCond .ge off, 3)) (kt : 0 ≤ x → zGo K l d M tgt ls st n h mc ms Q) (kf : ¬ 0 ≤ x → zGo K l d M (pc + 3) ls st n h mc ms Q) : zGo K l d M pc ls (.int x :: st) n h mc ms Q := by
  intro p e R s m args below meth c A n0 ad0 ad H locs cells slots MC MS lsA C D
  exact lv_if_ge C.1 C.2.1 hd ht (fun q => kt q p e R s m args below meth c A n0 ad0 ad H locs cells slots MC MS lsA C D) (fun q => kf q p e R s m args below meth c A n0 ad0 ad H locs cells slots MC MS lsA C D)
theorem zg_icmp_gt {K : zK} {l : Launch} {d : Nat} {M : zM} {pc : Nat} {ls : List (Nat × Value)} {st : List Value} {n : Nat} {h : zH} {mc ms : Nat} {Q : zQ} {x y : Int32} {off : Int} {tgt : Nat} (ht : (pc : Int) + off = (tgt : Int)) (hd : decode M.2.1 pc = .ok (.if_icmp .gt off, 3)) (kt : y < x → zGo K l d M tgt ls st n h mc ms Q) (kf : ¬ y < x → zGo K l d M (pc + 3) ls st n h mc ms Q) : zGo K l d M pc ls (.int y :: .int x :: st) n h mc ms Q := by
  intro p e R s m args below meth c A n0 ad0 ad H locs cells slots MC MS lsA C D
  exact lv_icmp_gt C.1 C.2.1 hd ht (fun q => kt q p e R s m args below meth c A n0 ad0 ad H locs cells slots MC MS lsA C D) (fun q => kf q p e R s m args below meth c A n0 ad0 ad H locs cells slots MC MS lsA C D)
theorem zg_if_gt {K : zK} {l : Launch} {d : Nat} {M : zM} {pc : Nat} {ls : List (Nat × Value)} {st : List Value} {n : Nat} {h : zH} {mc ms : Nat} {Q : zQ} {x : Int32} {off : Int} {tgt : Nat} (ht : (pc : Int) + off = (tgt : Int)) (hd : decode M.2.1 pc = .ok (.ifCond .gt off, 3)) (kt : 0 < x → zGo K l d M tgt ls st n h mc ms Q) (kf : ¬ 0 < x → zGo K l d M (pc + 3) ls st n h mc ms Q) : zGo K l d M pc ls (.int x :: st) n h mc ms Q := by
  intro p e R s m args below meth c A n0 ad0 ad H locs cells slots MC MS lsA C D
  exact lv_if_gt C.1 C.2.1 hd ht (fun q => kt q p e R s m args below meth c A n0 ad0 ad H locs cells slots MC MS lsA C D) (fun q => kf q p e R s m args below meth c A n0 ad0 ad H locs cells slots MC MS lsA C D)
theorem zg_icmp_le {K : zK} {l : Launch} {d : Nat} {M : zM} {pc : Nat} {ls : List (Nat × Value)} {st : List Value} {n : Nat} {h : zH} {mc ms : Nat} {Q : zQ} {x y : Int32} {off : Int} {tgt : Nat} (ht : (pc : Int) + off = (tgt : Int)) (hd : decode M.2.1 pc = .ok (.if_icmp .le off, 3)) (kt : x ≤ y → zGo K l d M tgt ls st n h mc ms Q) (kf : ¬ x ≤ y → zGo K l d M (pc + 3) ls st n h mc ms Q) : zGo K l d M pc ls (.int y :: .int x :: st) n h mc ms Q := by
  intro p e R s m args below meth c A n0 ad0 ad H locs cells slots MC MS lsA C D
  exact lv_icmp_le C.1 C.2.1 hd ht (fun q => kt q p e R s m args below meth c A n0 ad0 ad H locs cells slots MC MS lsA C D) (fun q => kf q p e R s m args below meth c A n0 ad0 ad H locs cells slots MC MS lsA C D)
theorem zg_if_le {K : zK} {l : Launch} {d : Nat} {M : zM} {pc : Nat} {ls : List (Nat × Value)} {st : List Value} {n : Nat} {h : zH} {mc ms : Nat} {Q : zQ} {x : Int32} {off : Int} {tgt : Nat} (ht : (pc : Int) + off = (tgt : Int)) (hd : decode M.2.1 pc = .ok (.ifCond .le off, 3)) (kt : x ≤ 0 → zGo K l d M tgt ls st n h mc ms Q) (kf : ¬ x ≤ 0 → zGo K l d M (pc + 3) ls st n h mc ms Q) : zGo K l d M pc ls (.int x :: st) n h mc ms Q := by
  intro p e R s m args below meth c A n0 ad0 ad H locs cells slots MC MS lsA C D
  exact lv_if_le C.1 C.2.1 hd ht (fun q => kt q p e R s m args below meth c A n0 ad0 ad H locs cells slots MC MS lsA C D) (fun q => kf q p e R s m args below meth c A n0 ad0 ad H locs cells slots MC MS lsA C D)
theorem zg_goto {K : zK} {l : Launch} {d : Nat} {M : zM} {pc : Nat} {ls : List (Nat × Value)} {st : List Value} {n : Nat} {h : zH} {mc ms : Nat} {Q : zQ} {off : Int} {tgt : Nat} (ht : (pc : Int) + off = (tgt : Int)) (k : zGo K l d M tgt ls st n h mc ms Q) (hd : decode M.2.1 pc = .ok (.goto off, 3)) : zGo K l d M pc ls st n h mc ms Q := by
  intro p e R s m args below meth c A n0 ad0 ad H locs cells slots MC MS lsA C D
  exact lv_goto C.1 C.2.1 hd ht (k p e R s m args below meth c A n0 ad0 ad H locs cells slots MC MS lsA C D)


