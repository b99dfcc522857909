/-! THE CLASS (2): the rota's calls -/
theorem isNights.same {lo hi : Nat} {h h1 : zH} {N : zN} (hN : isNights h N) (s : zSame lo hi h h1) (hp : 27 < lo ∨ hi < 22) : isNights h1 N := by
  obtain ⟨a1, a2, a3, a4, a5, a6⟩ := hN
  exact ⟨(s _ (by omega)).trans a1, (s _ (by omega)).trans a2, (s _ (by omega)).trans a3, (s _ (by omega)).trans a4, (s _ (by omega)).trans a5, (s _ (by omega)).trans a6⟩
theorem cScript.same {lo hi : Nat} {h h1 : zH} {G : zS} (hN : cScript h G) (s : zSame lo hi h h1) (hp : 4 < lo ∨ hi < 1) : cScript h1 G := by
  obtain ⟨pl, fa, tx, nu, to, ⟨a1, a2, a3, a4⟩, e⟩ := hN
  exact ⟨pl, fa, tx, nu, to, ⟨(s _ (by omega)).trans a1, (s _ (by omega)).trans a2, (s _ (by omega)).trans a3, (s _ (by omega)).trans a4⟩, e⟩
theorem cRota.same {lo hi : Nat} {h h1 : zH} {a : Nat} {T : zT} (hN : cRota h a T) (s : zSame lo hi h h1) (hp : a + 2 < lo ∨ hi < a) : cRota h1 a T := by
  obtain ⟨S, B, h1, h2⟩ := hN
  exact ⟨S, B, h1.same s hp, h2⟩
theorem cImg.same {lo hi : Nat} {h h1 : zH} {G : zS} {i a : Nat} (hN : cImg h G i a) (s : zSame lo hi h h1) (hp : a + 2 < lo ∨ hi < a) : cImg h1 G i a := by
  obtain ⟨⟨tu, tw, S, B, h2⟩, h3⟩ := hN
  exact ⟨⟨tu, tw, S, B, h2.same s hp⟩, fun q => (h3 q).same s hp⟩
theorem cRel.rota {h h1 : zH} {G : zS} {T : zT} (hC : cRel h G) (s : zSame 17 19 h h1) (hR : cRota h1 17 T) (ht : T.2.1 = (gT G).2.1) : cRel h1 (wT G T) := by
  obtain ⟨p, q, P', N, kf, hpq, hat, hsc, hp, hq, hR0, ⟨fi, hfi, hfi2⟩, hkf, hk2, hN, hNo, hi0, hi1⟩ := hC
  exact ⟨p, q, P', N, kf, hpq, (s 0 (by omega)).trans hat, hsc.same s (by omega), hp.same s (by omega), hq.same s (by omega), hR, ⟨fi, (s 20 (by omega)).trans hfi, hfi2⟩, (s 21 (by omega)).trans hkf, hk2, hN.same s (by omega), by rw [show (gT (wT G T)).2.1 = (gT G).2.1 from ht]; exact hNo, hi0.same s (by omega), hi1.same s (by omega)⟩
theorem zsum_upd {f f' : Nat → Nat} {n r : Nat} (hr : r < n) (h : ∀ i, i ≠ r → f' i = f i) (h1 : f' r = f r + 1) : zsum f' n = zsum f n + 1 := by
  induction n with
  | zero => omega
  | succ n ih =>
    simp only [zsum]
    by_cases q : r = n
    · subst q
      rw [zsum_congr (q := f) (fun i hi => h i (by omega)), h1]; omega
    · rw [ih (by omega), h n (by omega)]; omega
theorem zcnt_upd {f f' : Nat → Bool} {n r : Nat} (hr : r < n) (h : ∀ i, i ≠ r → f' i = f i) (h0 : f r = false) (h1 : f' r = true) : zcnt f' n = zcnt f n + 1 := by
  induction n with
  | zero => omega
  | succ n ih =>
    simp only [zcnt]
    by_cases q : r = n
    · subst q
      rw [zcnt_congr (q := f) (fun i hi => h i (by omega)), h0, h1]; simp
    · rw [ih (by omega), h n (by omega)]; omega
def tSet (T : zT) (r g v : Nat) : zT := (fun a b => if a = r ∧ b = g then v else T.1 a b, T.2.1, T.2.2)
theorem tSet_at (T : zT) (r g v : Nat) : (tSet T r g v).1 r g = v := if_pos ⟨rfl, rfl⟩
theorem tSet_ne {T : zT} {r g v a b : Nat} (h : ¬ (a = r ∧ b = g)) : (tSet T r g v).1 a b = T.1 a b := if_neg h
theorem tN_ne {T : zT} {r g v a : Nat} (h : a ≠ r) : tN (tSet T r g v) a = tN T a := zcnt_congr (fun b _ => by rw [tSet_ne (fun q => h q.1)])
theorem tN_put {T : zT} {r g v : Nat} (hg : g < 4) (h0 : T.1 r g = 0) (hv : v ≠ 0) : tN (tSet T r g v) r = tN T r + 1 :=
  zcnt_upd hg (fun i hi => by rw [tSet_ne (fun q => hi q.2)]) (by simp [h0]) (by rw [tSet_at]; simp [hv])
theorem tAll_put {T : zT} {r g v : Nat} (hr : r < 6) (hg : g < 4) (h0 : T.1 r g = 0) (hv : v ≠ 0) : tAll (tSet T r g v) = tAll T + 1 :=
  zsum_upd hr (fun _ hi => tN_ne hi) (tN_put hg h0 hv)
theorem tSet_back {T : zT} {r g v : Nat} (h : T.1 r g = v) : tSet (tSet T r g 0) r g v = T := by
  unfold tSet
  have : (fun a b => if a = r ∧ b = g then v else if a = r ∧ b = g then 0 else T.1 a b) = T.1 := by
    funext a b
    by_cases q : a = r ∧ b = g
    · rw [if_pos q, q.1, q.2, h]
    · rw [if_neg q, if_neg q]
  simp only [this]
theorem tAll_take {T : zT} {r g : Nat} (hr : r < 6) (hg : g < 4) (h0 : T.1 r g ≠ 0) : tAll T = tAll (tSet T r g 0) + 1 := by
  have h := tAll_put (T := tSet T r g 0) hr hg (tSet_at T r g 0) h0
  rw [tSet_back rfl] at h
  exact h
theorem rB_set {B : Nat → Int32} {T : zT} {r g v : Nat} {x : Int32} (h : rB B T) (hr : r < 6) (hg : g < 4) (hx : x = if v = 0 then -9 else nI (v - 1)) : rB (upd B (4 * r + g) x) (tSet T r g v) := by
  intro a b ha hb
  by_cases q : a = r ∧ b = g
  · rw [q.1, q.2, pk_us, tSet_at]; exact hx
  · rw [pk_un (by omega), tSet_ne q]; exact h a b ha hb
/-- whether one can be put there -/
def canPut (P : zP) (T : zT) (r g b : Nat) : Prop := (sBells P r g).testBit b = true ∧ (∀ q, q < 6 → T.1 q g ≠ b + 1) ∧ tN T r < pTi P ∧ ∀ q, q < 4 → T.1 r q ≠ 0 → pRe P < zdist g q
theorem zdist_comm (a b : Nat) : zdist a b = zdist b a := by unfold zdist; split <;> split <;> omega
theorem tN_le_of {T : zT} {r g v : Nat} (hg : g < 4) : tN (tSet T r g v) r ≤ tN T r + 1 := by
  by_cases h0 : T.1 r g = 0
  · by_cases hv : v = 0
    · rw [hv, ← h0]
      have e : tN (tSet T r g (T.1 r g)) r = tN T r := zcnt_congr (fun b _ => by
        by_cases q : b = g
        · rw [q, tSet_at]
        · rw [tSet_ne (fun z => q z.2)])
      omega
    · rw [tN_put hg h0 hv]; omega
  · by_cases hv : v = 0
    · have h := tN_put (T := tSet T r g 0) hg (tSet_at T r g 0) h0
      rw [tSet_back rfl] at h
      rw [hv]; omega
    · have e : tN (tSet T r g v) r = tN T r := zcnt_congr (fun b _ => by
        by_cases q : b = g
        · rw [q, tSet_at]; simp [h0, hv]
        · rw [tSet_ne (fun z => q z.2)])
      omega
theorem okT.put {P : zP} {T : zT} {r g b : Nat} (ok : okT P T) (hr : r < pR P) (hg : g < pH P) (hb : b < pW P g) (hr6 : r < 6) (hg4 : g < 4) (h : canPut P T r g b) : okT P (tSet T r g (b + 1)) := by
  obtain ⟨o1, o2, o3, o4, o5, o6⟩ := ok
  obtain ⟨c1, c2, c3, c4⟩ := h
  refine ⟨fun a k ha hk h0 => ?_, fun a e k ha he hk h0 hae => ?_, fun a ha => ?_, fun a k j ha hk hj hne h1 h2 => ?_, o5, o6⟩
  · by_cases q : a = r ∧ k = g
    · rw [q.1, q.2, tSet_at]
      exact ⟨hr, hg, hb, by rw [Nat.add_sub_cancel]; exact c1⟩
    · rw [tSet_ne q] at h0 ⊢
      exact o1 a k ha hk h0
  · by_cases q1 : a = r ∧ k = g
    · by_cases q2 : e = r ∧ k = g
      · rw [q1.1, q2.1]
      · rw [q1.1, q1.2, tSet_at, tSet_ne (by rw [q1.2] at q2; exact q2)] at hae
        exact absurd hae.symm (c2 e he)
    · by_cases q2 : e = r ∧ k = g
      · rw [q2.1, q2.2, tSet_at, tSet_ne (by rw [q2.2] at q1; exact q1)] at hae
        exact absurd hae (c2 a ha)
      · rw [tSet_ne q1] at h0 hae
        rw [tSet_ne q2] at hae
        exact o2 a e k ha he hk h0 hae
  · by_cases q : a = r
    · rw [q]
      have := tN_le_of (T := T) (r := r) (v := b + 1) hg4
      omega
    · rw [tN_ne q]; exact o3 a ha
  · by_cases q1 : a = r ∧ k = g
    · by_cases q2 : a = r ∧ j = g
      · exact absurd (q1.2.trans q2.2.symm) hne
      · rw [tSet_ne q2] at h2
        rw [q1.2]
        exact c4 j hj (by rw [← q1.1]; exact h2)
    · rw [tSet_ne q1] at h1
      by_cases q2 : a = r ∧ j = g
      · rw [q2.2, zdist_comm]
        exact c4 k hk (by rw [← q2.1]; exact h1)
      · rw [tSet_ne q2] at h2
        exact o4 a k j ha hk hj hne h1 h2
theorem okT.take {P : zP} {T : zT} {r g : Nat} (ok : okT P T) (hg4 : g < 4) : okT P (tSet T r g 0) := by
  obtain ⟨o1, o2, o3, o4, o5, o6⟩ := ok
  have e : ∀ {a k}, (tSet T r g 0).1 a k ≠ 0 → (tSet T r g 0).1 a k = T.1 a k := by
    intro a k h
    by_cases q : a = r ∧ k = g
    · rw [q.1, q.2, tSet_at] at h; exact absurd rfl h
    · exact tSet_ne q
  have le : ∀ a, tN (tSet T r g 0) a ≤ tN T a := by
    intro a
    by_cases q : a = r
    · rw [q]
      by_cases h0 : T.1 r g = 0
      · have e : tN (tSet T r g 0) r = tN T r := zcnt_congr (fun b _ => by
          by_cases q : b = g
          · rw [q, tSet_at, h0]
          · rw [tSet_ne (fun z => q z.2)])
        omega
      · have h := tN_put (T := tSet T r g 0) hg4 (tSet_at T r g 0) h0
        rw [tSet_back rfl] at h
        omega
    · rw [tN_ne q]; exact Nat.le_refl _
  refine ⟨fun a k ha hk h0 => ?_, fun a c k ha he hk h0 hae => ?_, fun a ha => Nat.le_trans (le a) (o3 a ha), fun a k j ha hk hj hne h1 h2 => ?_, o5, o6⟩
  · have := e h0
    rw [this] at h0 ⊢
    exact o1 a k ha hk h0
  · have e1 := e h0
    have e2 := e (by rw [← hae]; exact h0)
    rw [e1] at h0
    rw [e1, e2] at hae
    exact o2 a c k ha he hk h0 hae
  · have e1 := e h1
    have e2 := e h2
    rw [e1] at h1
    rw [e2] at h2
    exact o4 a k j ha hk hj hne h1 h2
theorem okS.wT {G : zS} {T : zT} (ok : okS G) (h : okT (gP G) T) : okS (wT G T) := ⟨ok.1, h, ok.2.2.1, ok.2.2.2⟩
