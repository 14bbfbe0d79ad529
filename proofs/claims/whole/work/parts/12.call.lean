/-! calls; a method's contract -/
theorem aMok_f {mid : Nat} (h : mid < mNm) : Jvm.Cond.code (mY mid) (mB mid) (mL mid) (mR mid) ∈ gw ∧ Jvm.Cond.initialized (mY mid).cls ∈ gw ∧ plainName (mY mid).cls = true ∧ aOn (mO mid) = (mY mid).cls ∧ ((mY mid).cls ≠ "java/lang/invoke/MethodHandle" ∧ (mY mid).cls ≠ "java/lang/invoke/VarHandle" ∧ (parseMethodDescriptor (mY mid).desc).map (fun d => d.parameters.length) = some (mA mid)) ∧ mL mid ≤ 12 ∧ 0 < mV mid ∧
    ((mKd mid = 0 ∧ Jvm.Cond.static (mY mid) ∈ gw) ∨ (mKd mid = 1 ∧ Jvm.Cond.instanceMethod (mY mid) ∈ gw ∧ (mY mid).name = "<init>" ∧ mR mid = none) ∨ (2 ≤ mKd mid ∧ mC mid < 12 ∧ (aCl (mC mid)).1 = (mY mid).cls ∧ Jvm.Cond.instanceMethod (mY mid) ∈ gw ∧ Jvm.Cond.selects (mY mid).cls (mY mid) (mY mid) ∈ gw)) := by
  have h1 := aMok_all h
  unfold aMok at h1
  simp only [Bool.and_eq_true, decide_eq_true_eq, Nat.ble_eq, Nat.blt_eq] at h1
  obtain ⟨⟨⟨⟨⟨⟨⟨⟨⟨⟨a1, a2⟩, a3⟩, a4⟩, a5⟩, a6⟩, a7⟩, a8⟩, a9⟩, -⟩, a10⟩ := h1
  refine ⟨aTw_in a1, aTw_in a2, a3, a4, ⟨a5, a6, a7⟩, a8, a9, ?_⟩
  split at a10
  · rename_i hk
    exact Or.inl ⟨hk, aTw_in a10⟩
  · rename_i hk
    simp only [Bool.and_eq_true, decide_eq_true_eq] at a10
    exact Or.inr (Or.inl ⟨hk, aTw_in a10.1.1, a10.1.2, a10.2⟩)
  · rename_i hk
    simp only [Bool.and_eq_true, decide_eq_true_eq, Nat.blt_eq] at a10
    exact Or.inr (Or.inr ⟨by omega, a10.1.1.1, a10.1.1.2, aTw_in a10.1.2, aTw_in a10.2⟩)
  · rename_i h0 h1 h2
    simp only [Bool.and_eq_true, decide_eq_true_eq, Nat.blt_eq] at a10
    exact Or.inr (Or.inr ⟨(match hq : mKd mid with | 0 => absurd hq (by assumption) | 1 => absurd hq (by assumption) | n + 2 => by omega), a10.1.1.1.1, a10.1.1.1.2, aTw_in a10.1.1.2, vx_s _ a10.1.2 a10.2⟩)
def aWs (mid : Nat) : List Jvm.Cond := .code (mY mid) (mB mid) (mL mid) (mR mid) :: gw
def aRm (mid mc ms : Nat) : Room := { frames := mV mid, cells := mc, slots := ms, locals := 32 * mV mid }
def aPc (D : va_G) (dA : Nat → ClassId) (ad : Nat → Nat) (al : Bool) (N : aV) (sz : Nat) : State → Prop := fun U => U.heap.size = sz ∧ va_P D vwCl (aWl dA ad N) U.heap ∧ va_D (va_A (aWl dA ad N) sz) (aWl dA ad N) ∧ va_K D vwCl (aTys dA) U ∧ aExt ad (va_A (aWl dA ad N) sz) U U.heap ∧ (al = true → (∀ k, k < 1000000 → ad k = ad 0 + k) ∧ sz = ad 0 + N.1.length ∧ 0 < N.1.length)
def aQc (D : va_G) (dA : Nat → ClassId) (ad : Nat → Nat) (N : aV) (sz : Nat) (r : Option Value × aV) : Array Value → State → Outcome → State → Prop := fun _ st oc t => oc = .returned r.1 ∧ va_P D vwCl (aWl dA ad r.2) t.heap ∧ va_D (va_A (aWl dA ad N) sz) (aWl dA ad r.2) ∧ va_F (va_A (aWl dA ad N) sz) st t
def aMet (l : Launch) (D : va_G) (dA : Nat → ClassId) (ad : Nat → Nat) (al : Bool) (mid : Nat) (as : List Value) (N : aV) (sz : Nat) (r : Option Value × aV) : Prop := Met l (mY mid) (aWs mid) (aRm mid (r.2.1.length - N.1.length) (csz r.2 - csz N)) (va_Pc (as.map (aTv ad)) (aPc D dA ad al N sz)) (aQc D dA ad N sz r) (r.2.1.length - N.1.length) (csz r.2 - csz N) (va_A (aWl dA ad N) sz)
theorem aGood {mid : Nat} (h : mid < mNm) : GoodIn gw (aWs mid) := by
  intro w hw
  rcases List.mem_cons.mp hw with rfl | hw
  · exact ⟨(aMok_f h).1, good_of_word (vx_gw (aMok_f h).1).2⟩
  · exact ⟨hw, good_of_word (vx_gw hw).2⟩
theorem aPc_blind {D : va_G} {dA : Nat → ClassId} {ad : Nat → Nat} {al : Bool} {N : aV} {sz : Nat} {av : List Value} : FrameBlind (va_Pc av (aPc D dA ad al N sz)) := by
  intro a U g mk q
  obtain ⟨h0, h1, h2, h3, h4, h5, h6⟩ := q
  exact ⟨h0, h1, h2, h3, va_K.moved (u := U) (U := U.calling g mk a) (Vm.Alike.refl U.vm) h4, (aExt.same (u := U) (U := U.calling g mk a) rfl h5 : aExt ad (va_A (aWl dA ad N) sz) (U.calling g mk a) U.heap), h6⟩
section ACALL
variable {p : Program} {l : Launch} {e : Env} {R : Room} {s : State} {m : MethodId} {args : Array Value} {below : List Frame} {meth : Method} {c : Code} {H : Heap} {locs : List Loc} {cells slots : Nat} {Q : State → Prop}
variable {cc : ByteArray} {pc len o : Nat} {ini al : Bool} {rl : Array Slot} {ad : Nat → Nat} {A : Nat → Prop} {ri op : Instr} {D : va_G} {dA : Nat → ClassId} {N : aV}
theorem aGo {r : Option Value × aV} {a : Array Value} {mc ms : Nat} {st0 rest : List Value} (hr : va_Run p l e R s m args below meth c H locs cells slots mc ms (F0 m pc rl st0) rest (aQc D dA ad N H.size r a) (va_A (aWl dA ad N) H.size)) (hS : va_S A s.heap H locs) (hA1 : ∀ q, va_A (aWl dA ad N) H.size q → A q)
    (kk : ∀ (H1 : Heap) (locs1 : List Loc), va_P D vwCl (aWl dA ad r.2) H1 → va_D A (aWl dA ad r.2) → va_S A s.heap H1 locs1 → W p l e R s m args below meth c H1 locs1 (cells + mc) (slots + ms) Q (F0 m (pc + 3) rl (r.1.toList ++ rest))) : W p l e R s m args below meth c H locs cells slots Q (F0 m pc rl st0) := by
  intro T hT X
  obtain ⟨v, st₀, t, T', L, h0, X', hL, e1, e2, ⟨hv, hP, hD, hz, hk⟩, st⟩ := hr T hT X
  cases hv
  rw [h0] at hz hk
  obtain ⟨t2, a1, b1⟩ := kk T'.heap (locs ++ L) (by rw [e1]; exact hP) (hD.weaken (fun k q _ h => hA1 q.1 h)) ⟨Nat.le_trans hS.1 (by rw [e1]; exact hz), fun q h1 h2 => by rw [e1, hk q (Nat.lt_of_lt_of_le h1 hS.1) (fun z => h2 (hA1 q z))]; exact hS.2.1 q h1 h2, fun q hq => by
    rcases List.mem_append.mp hq with h | h
    · exact hS.2.2 q h
    · exact hA1 _ (hL q h)⟩ T' rfl X'
  exact ⟨t2, st t2 a1, b1⟩
theorem aStk {ad : Nat → Nat} {st : List Value} {n : Nat} : st.map (aTv ad) = (((st.take n).reverse).map (aTv ad)).reverse ++ (st.drop n).map (aTv ad) := by
  rw [List.map_reverse, List.reverse_reverse, ← List.map_append, List.take_append_drop]
set_option maxHeartbeats 4000000 in
theorem aCalW {st : List Value} {mid : Nat} {q : Nat × List Value × List Value} {r : Option Value × aV} (F : aFix p s m args c cc o ad A) (hml : c.maxLocals = rl.size) (hK : va_K D vwCl (aTys dA) s) (hA : ∀ q, s.heap.size ≤ q → A q) (hW : aWd D dA ad A s N H locs)
    (hal : al = true → (∀ k, k < 1000000 → ad k = ad 0 + k) ∧ H.size = ad 0 + N.1.length ∧ 0 < N.1.length) (hR1 : R.frames = mV mid) (hR2 : R.locals = 32 * mV mid) (hc : cells + (r.2.1.length - N.1.length) ≤ R.cells) (hs : slots + (csz r.2 - csz N) ≤ R.slots)
    (hd : decode cc pc = .ok (ri, len)) (hl : aLen ri = 0 ∨ len = aLen ri) (ht : aTr o ini ri = some op) (hg : aGrp op = 4) (h : aCal mid op st N = some q) (hM : aMet l D dA ad al q.1 q.2.1 N H.size r)
    (k : ∀ (H' : Heap) (locs' : List Loc), aWd D dA ad A s r.2 H' locs' → W p l e R s m args below meth c H' locs' (cells + (r.2.1.length - N.1.length)) (slots + (csz r.2 - csz N)) Q (F0 m (pc + len) rl (r.1.toList ++ q.2.2.map (aTv ad)))) : W p l e R s m args below meth c H locs cells slots Q (F0 m pc rl (st.map (aTv ad))) := by
  obtain ⟨hx, hb, hown, hts, hE⟩ := F
  obtain ⟨hP, hD, hS⟩ := hW
  have hA1 : ∀ q, va_A (aWl dA ad N) H.size q → A q := by
    intro q hq
    rcases hq with ⟨i, e, hq⟩ | hq
    · exact hD.2 i _ hq
    · exact hA q (Nat.le_trans hS.1 hq)
  have hPre : ∀ av : List Value, ∀ U : State, U.heap = H → s.WarmedH U.vm → va_Pc av (aPc D dA ad al N H.size) av.toArray U := by
    intro av U hU hWm
    refine ⟨rfl, by rw [hU], by rw [hU]; exact hP, hD.self, va_K.moved hWm.alike hK, ?_, hal⟩
    rw [hU]
    exact ((hE.kept hS.2.1).narrow hA1).warm hWm
  have hkk : ∀ (H1 : Heap) (locs1 : List Loc), va_P D vwCl (aWl dA ad r.2) H1 → va_D A (aWl dA ad r.2) → va_S A s.heap H1 locs1 → W p l e R s m args below meth c H1 locs1 (cells + (r.2.1.length - N.1.length)) (slots + (csz r.2 - csz N)) Q (F0 m (pc + len) rl (r.1.toList ++ q.2.2.map (aTv ad))) := fun H1 locs1 h1 h2 h3 => k H1 locs1 ⟨h1, h2, h3⟩
  cases ri
  case invokestatic i =>
    simp only [aTr] at ht
    obtain ⟨rr, hr, rfl⟩ := aq_m ht
    obtain rfl := aq_l 3 hl rfl (by decide)
    obtain ⟨h1, rfl⟩ := aq_bif h
    unfold aOkC at h1
    simp only [Bool.and_eq_true, Nat.beq_eq, Nat.blt_eq, Nat.ble_eq] at h1
    obtain ⟨⟨⟨g0, g1⟩, ⟨g2, g3⟩, g4⟩, g5⟩ := h1
    obtain ⟨f1, f2, f3, f4, f5, f6, f7, f8⟩ := aMok_f g1
    have hst : Jvm.Cond.static (mY rr.2.2.1) ∈ gw := by
      rcases f8 with ⟨-, f8⟩ | ⟨f8, -⟩ | ⟨f8, -⟩
      · exact f8
      · omega
      · omega
    have hRm : (aRm rr.2.2.1 (r.2.1.length - N.1.length) (csz r.2 - csz N)).frames + 1 ≤ R.frames ∧ 8 + (mL rr.2.2.1 + 11) + (aRm rr.2.2.1 (r.2.1.length - N.1.length) (csz r.2 - csz N)).locals ≤ R.locals := by
      rw [hR1, hR2]
      show mV rr.2.2.1 + 1 ≤ mV mid ∧ 8 + (mL rr.2.2.1 + 11) + 32 * mV rr.2.2.1 ≤ 32 * mV mid
      omega
    rw [aStk (ad := ad) (st := st) (n := mA rr.2.2.1)]
    have hlk : Jvm.Cond.methodLinkNest (aOn o) i (mY rr.2.2.1) "EdgeChain" ∈ aNst ∨ Jvm.Cond.methodLink (aOn o) i (mY rr.2.2.1) ∈ gw := by
      rcases aMr_at hr with ⟨q, -⟩ | ⟨q, -⟩ | ⟨q, -⟩ | ⟨-, q⟩
      · unfold mNm at g1; omega
      · unfold mNm at g1; omega
      · unfold mNm at g1; omega
      · exact q
    rcases hlk with hlk | hlk
    · exact aGo (va_runSN (As := ((st.take (mA rr.2.2.1)).reverse).map (aTv ad)) ⟨hx, hb, hml, hown, hts⟩ hM ⟨va_cnB (mA rr.2.2.1) hts (aGood g1) rfl rfl rfl (hE.1 _ hlk) (hts _ f2) f5 hRm, hts _ hst, trivial⟩ ⟨aPc_blind, hPre _⟩ rfl (by simp at g3 ⊢; exact g3) rfl rfl (lv_room (by rw [aCat_sum]; exact g4)) hd ⟨hc, hs⟩) hS hA1 hkk
    · exact aGo (va_runS (As := ((st.take (mA rr.2.2.1)).reverse).map (aTv ad)) ⟨hx, hb, hml, hown, hts⟩ hM ⟨callB_of (mA rr.2.2.1) hts (aGood g1) rfl rfl rfl (hts _ f2) (hts _ hlk) f5 hRm, hts _ hst⟩ ⟨aPc_blind, hPre _⟩ rfl (by simp at g3 ⊢; exact g3) rfl rfl (lv_room (by rw [aCat_sum]; exact g4)) hd ⟨hc, hs⟩) hS hA1 hkk
  case invokevirtual i =>
    simp only [aTr] at ht
    obtain ⟨rr, hr, rfl⟩ := aq_m ht
    obtain rfl := aq_l 3 hl rfl (by decide)
    simp only [aCal] at h
    split at h
    · rename_i b rest hst0
      split at h
      · rename_i c2 n2 hcell
        obtain ⟨h1, rfl⟩ := aq_bif h
        unfold aOkC at h1
        simp only [Bool.and_eq_true, Nat.beq_eq, Nat.blt_eq, Nat.ble_eq] at h1
        obtain ⟨⟨⟨⟨g0, g1⟩, gc⟩, ⟨g2, g3⟩, g4⟩, g5⟩ := h1
        obtain ⟨f1, f2, f3, f4, f5, f6, f7, f8⟩ := aMok_f g1
        obtain ⟨y1, y2, y3, y4⟩ : mC rr.2.2.1 < 12 ∧ (aCl (mC rr.2.2.1)).1 = (mY rr.2.2.1).cls ∧ Jvm.Cond.instanceMethod (mY rr.2.2.1) ∈ gw ∧ Jvm.Cond.selects (mY rr.2.2.1).cls (mY rr.2.2.1) (mY rr.2.2.1) ∈ gw := by
          rcases f8 with ⟨f8, -⟩ | ⟨f8, -⟩ | ⟨-, f8⟩
          · omega
          · omega
          · exact f8
        have hRm : (aRm rr.2.2.1 (r.2.1.length - N.1.length) (csz r.2 - csz N)).frames + 1 ≤ R.frames ∧ 8 + (mL rr.2.2.1 + 11) + (aRm rr.2.2.1 (r.2.1.length - N.1.length) (csz r.2 - csz N)).locals ≤ R.locals := by
          rw [hR1, hR2]
          show mV rr.2.2.1 + 1 ≤ mV mid ∧ 8 + (mL rr.2.2.1 + 11) + 32 * mV rr.2.2.1 ≤ 32 * mV mid
          omega
        rw [aStk (ad := ad) (st := st) (n := mA rr.2.2.1), hst0]
        have hlk : Jvm.Cond.methodLinkNest (aOn o) i (mY rr.2.2.1) "EdgeChain" ∈ aNst ∨ Jvm.Cond.methodLink (aOn o) i (mY rr.2.2.1) ∈ gw := by
          rcases aMr_at hr with ⟨q, -⟩ | ⟨q, -⟩ | ⟨q, -⟩ | ⟨-, q⟩
          · unfold mNm at g1; omega
          · unfold mNm at g1; omega
          · unfold mNm at g1; omega
          · exact q
        subst gc
        have hgb := aWl_get (dA := dA) (ad := ad) hcell
        rw [aE_obj y1] at hgb
        have hrecv : ∃ cellB : Cell, H[ad b]? = some cellB ∧ cellB.vm.isStatics = false ∧ s.vm.findClass (mY rr.2.2.1).cls = some cellB.cls := by
          rw [← y2]
          exact va_recv hK hP (ci := mC rr.2.2.1) (q0 := b) (aClF_all y1).1 hgb
        rcases hlk with hlk | hlk
        · exact aGo (va_runVN (C := (mY rr.2.2.1).cls) (b := ad b) (As := ((st.take (mA rr.2.2.1)).reverse).map (aTv ad)) ⟨hx, hb, hml, hown, hts⟩ hM ⟨va_cnB (mA rr.2.2.1) hts (aGood g1) rfl rfl rfl (hE.1 _ hlk) (hts _ f2) f5 hRm, hts _ y3, hts _ y4⟩ ⟨aPc_blind, hrecv, hPre _⟩ rfl (by simp at g3 ⊢; exact g3) rfl rfl (lv_room (by rw [aCat_sum]; exact g4)) hd ⟨hc, hs⟩) hS hA1 hkk
        · exact aGo (va_runV (C := (mY rr.2.2.1).cls) (b := ad b) (As := ((st.take (mA rr.2.2.1)).reverse).map (aTv ad)) ⟨hx, hb, hml, hown, hts⟩ hM ⟨callB_of (mA rr.2.2.1) hts (aGood g1) rfl rfl rfl (hts _ f2) (hts _ hlk) f5 hRm, hts _ y3, hts _ y4⟩ ⟨aPc_blind, hrecv, hPre _⟩ rfl (by simp at g3 ⊢; exact g3) rfl rfl (lv_room (by rw [aCat_sum]; exact g4)) hd ⟨hc, hs⟩) hS hA1 hkk
      · cases h
    · cases h
  case invokespecial i =>
    simp only [aTr] at ht
    obtain ⟨rr, hr, rfl⟩ := aq_m ht
    obtain rfl := aq_l 3 hl rfl (by decide)
    simp only [aCal] at h
    split at h
    · rename_i b rest hst0
      obtain ⟨h1, rfl⟩ := aq_bif h
      unfold aOkC at h1
      simp only [Bool.and_eq_true, Nat.beq_eq, Nat.blt_eq, Nat.ble_eq] at h1
      obtain ⟨⟨⟨g0, g1⟩, ⟨g2, g3⟩, g4⟩, g5⟩ := h1
      obtain ⟨f1, f2, f3, f4, f5, f6, f7, f8⟩ := aMok_f g1
      obtain ⟨y3, y4, y5⟩ : Jvm.Cond.instanceMethod (mY rr.2.2.1) ∈ gw ∧ (mY rr.2.2.1).name = "<init>" ∧ mR rr.2.2.1 = none := by
        rcases f8 with ⟨f8, -⟩ | ⟨-, f8⟩ | ⟨f8, -⟩
        · omega
        · exact f8
        · omega
      have hRm : (aRm rr.2.2.1 (r.2.1.length - N.1.length) (csz r.2 - csz N)).frames + 1 ≤ R.frames ∧ 8 + (mL rr.2.2.1 + 11) + (aRm rr.2.2.1 (r.2.1.length - N.1.length) (csz r.2 - csz N)).locals ≤ R.locals := by
        rw [hR1, hR2]
        show mV rr.2.2.1 + 1 ≤ mV mid ∧ 8 + (mL rr.2.2.1 + 11) + 32 * mV rr.2.2.1 ≤ 32 * mV mid
        omega
      rw [aStk (ad := ad) (st := st) (n := mA rr.2.2.1), hst0]
      have hlk : Jvm.Cond.methodLinkNest (aOn o) i (mY rr.2.2.1) "EdgeChain" ∈ aNst ∨ Jvm.Cond.methodLink (aOn o) i (mY rr.2.2.1) ∈ gw := by
        rcases aMr_at hr with ⟨q, -⟩ | ⟨q, -⟩ | ⟨q, -⟩ | ⟨-, q⟩
        · unfold mNm at g1; omega
        · unfold mNm at g1; omega
        · unfold mNm at g1; omega
        · exact q
      have hG := aGood g1
      have hM' : Met l (mY rr.2.2.1) (.code (mY rr.2.2.1) (mB rr.2.2.1) (mL rr.2.2.1) none :: gw) (aRm rr.2.2.1 (r.2.1.length - N.1.length) (csz r.2 - csz N)) (va_Pc ((Value.ref b :: (st.take (mA rr.2.2.1)).reverse).map (aTv ad)) (aPc D dA ad al N H.size)) (aQc D dA ad N H.size r) (r.2.1.length - N.1.length) (csz r.2 - csz N) (va_A (aWl dA ad N) H.size) := by
        have := hM
        unfold aMet aWs at this
        rw [y5] at this
        exact this
      unfold aWs at hG
      rw [y5] at hG
      rcases hlk with hlk | hlk
      · exact aGo (va_runIN (b := ad b) (As := ((st.take (mA rr.2.2.1)).reverse).map (aTv ad)) ⟨hx, hb, hml, hown, hts⟩ hM' ⟨va_cnB (mA rr.2.2.1) hts hG rfl rfl rfl (hE.1 _ hlk) (hts _ f2) f5 hRm, y4, hts _ y3⟩ ⟨aPc_blind, hPre _⟩ rfl (by simp at g3 ⊢; exact g3) rfl rfl (lv_room (by rw [aCat_sum]; exact g4)) hd ⟨hc, hs⟩) hS hA1 hkk
      · exact aGo (va_runI (b := ad b) (As := ((st.take (mA rr.2.2.1)).reverse).map (aTv ad)) ⟨hx, hb, hml, hown, hts⟩ hM' ⟨callB_of (mA rr.2.2.1) hts hG rfl rfl rfl (hts _ f2) (hts _ hlk) f5 hRm, y4, hts _ y3⟩ ⟨aPc_blind, hPre _⟩ rfl (by simp at g3 ⊢; exact g3) rfl rfl (lv_room (by rw [aCat_sum]; exact g4)) hd ⟨hc, hs⟩) hS hA1 hkk
    · cases h
  case getfield i =>
    simp only [aTr] at ht
    obtain ⟨r, hr, rfl⟩ := aq_m ht
    exact aq_n h rfl
  case getstatic i =>
    simp only [aTr] at ht
    obtain ⟨r, hr, rfl⟩ := aq_m ht
    exact aq_n h rfl
  case new i =>
    simp only [aTr] at ht
    obtain ⟨r, hr, rfl⟩ := aq_m ht
    exact aq_n h rfl
  case ldc_w i =>
    simp only [aTr] at ht
    obtain ⟨r, hr, rfl⟩ := aq_m ht
    exact aq_n h rfl
  case ldc2_w i =>
    simp only [aTr] at ht
    obtain ⟨r, hr, rfl⟩ := aq_m ht
    exact aq_n h rfl
  case putfield i =>
    simp only [aTr] at ht
    obtain ⟨r, hr, ht⟩ := aq_b ht
    obtain ⟨-, rfl⟩ := aq_c ht
    exact aq_n h rfl
  case ldc i =>
    simp only [aTr] at ht
    split at ht
    · cases ht
      exact aq_n h rfl
    · obtain ⟨r, hr, rfl⟩ := aq_m ht
      exact aq_n h rfl
  case anewarray i =>
    simp only [aTr] at ht
    obtain ⟨r, hr, ht⟩ := aq_b ht
    revert ht
    cases Nat.beq r.2.2.1 3 <;> cases Nat.beq r.2.2.1 1 <;> cases Nat.beq r.2.2.1 7 <;> intro ht <;> cases ht <;> exact aq_n h rfl
  case multianewarray i d =>
    simp only [aTr] at ht
    obtain ⟨-, rfl⟩ := aq_c ht
    exact aq_n h rfl
  case lookupswitch d ps =>
    simp only [aTr] at ht
    obtain ⟨-, rfl⟩ := aq_c ht
    exact aq_n h rfl
  case iinc i n =>
    simp only [aTr] at ht
    obtain ⟨-, rfl⟩ := aq_c ht
    exact aq_n h rfl
  case iconst n =>
    simp only [aTr] at ht
    obtain ⟨-, rfl⟩ := aq_c ht
    exact aq_n h rfl
  case bipush n =>
    simp only [aTr] at ht
    obtain ⟨-, rfl⟩ := aq_c ht
    exact aq_n h rfl
  case sipush n =>
    simp only [aTr] at ht
    obtain ⟨-, rfl⟩ := aq_c ht
    exact aq_n h rfl
  case lconst n =>
    simp only [aTr] at ht
    obtain ⟨-, rfl⟩ := aq_c ht
    exact aq_n h rfl
  case jsr_w n =>
    cases ht
  all_goals (cases ht; exact aq_n h rfl)
end ACALL
