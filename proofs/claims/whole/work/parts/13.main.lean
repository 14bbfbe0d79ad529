/-! every run of the abstract machine is one of the machine's -/
/-- the reader's isName, by itself -/
def aNmOk (l : Launch) : Prop := ∀ (D : va_G) (dA : Nat → ClassId) (ad : Nat → Nat) (al : Bool) (as : List Value) (N : aV) (sz : Nat) (r : Option Value × aV), aNm as N = some r → aMet l D dA ad al mIsName as N sz r
/-- what a frame needs beside its world -/
def aFrm (l : Launch) (n : Nat) : Prop := ∀ (al : Bool) (mid : Nat) (t : aS) (res : Option Value × aV), mid < mNm → aX al n mid t = some res → t.2.1.length = mL mid →
  ∀ (D : va_G) (dA : Nat → ClassId) (ad : Nat → Nat) (A : Nat → Prop) (p : Program) (e : Env) (R : Room) (s : State) (m : MethodId) (args : Array Value) (below : List Frame) (meth : Method) (c : Code) (H : Heap) (locs : List Loc) (cells slots : Nat) (rl : Array Slot) (Qc : Array Value → State → Outcome → State → Prop) (free : Addr → Prop),
    aFix p s m args c (mB mid) (mO mid) ad A → meth.sig.returnType = mR mid → meth.locks = false → (mIni mid = true → meth.name = "<init>") → c.maxLocals = mL mid → va_K D vwCl (aTys dA) s → (∀ q, s.heap.size ≤ q → A q) → aWd D dA ad A s t.2.2.2 H locs → aLh ad rl t.2.1 →
    (al = true → (∀ k, k < 1000000 → ad k = ad 0 + k) ∧ s.heap.size + cells = ad 0 + t.2.2.2.1.length ∧ (∀ q, A q → ad 0 ≤ q) ∧ res.2.1.length < 1000000 ∧ 0 < t.2.2.2.1.length) → R.frames = mV mid → R.locals = 32 * mV mid → cells + res.2.1.length = R.cells + t.2.2.2.1.length → slots + csz res.2 = R.slots + csz t.2.2.2 →
    (∀ u : State, va_P D vwCl (aWl dA ad res.2) u.heap → va_D A (aWl dA ad res.2) → va_F A s u → Qc args s (.returned res.1) u) → (∀ q, A q → free q) →
    W p l e R s m args below meth c H locs cells slots (MQ below Qc args s R.cells R.slots free) (F0 m t.1 rl (t.2.2.1.map (aTv ad)))
theorem aSl_len {ad : Nat → Nat} : ∀ {as : List Value}, (lg_sl (as.map (aTv ad))).length = (aSl as).length
  | [] => rfl
  | v :: t => by
    have ih := aSl_len (ad := ad) (as := t)
    have e1 : lg_sl ((v :: t).map (aTv ad)) = (if (aTv ad v).category = 2 then [.val (aTv ad v), .second] else [.val (aTv ad v)]) ++ lg_sl (t.map (aTv ad)) := rfl
    rw [e1, List.length_append, ih, aTv_cat]
    show _ = (bif Nat.beq v.category 2 then some v :: none :: aSl t else some v :: aSl t).length
    by_cases h : v.category = 2
    · rw [if_pos h, h]; simp; omega
    · have : Nat.beq v.category 2 = false := by
        cases hq : Nat.beq v.category 2
        · rfl
        · exact absurd (Nat.eq_of_beq_eq_true hq) h
      rw [if_neg h, this]; simp; omega
theorem aSl_args {ad : Nat → Nat} : ∀ {as : List Value} {i j : Nat} {v : Value}, (aSl as)[i]? = some (some v) → (j + i, aTv ad v) ∈ lv_args j (as.map (aTv ad))
  | [], _, _, _, h => by cases h
  | w :: t, i, j, v, h => by
    have e1 : lv_args j ((w :: t).map (aTv ad)) = (j, aTv ad w) :: lv_args (if (aTv ad w).category = 2 then j + 2 else j + 1) (t.map (aTv ad)) := rfl
    rw [e1, aTv_cat]
    have h : (bif Nat.beq w.category 2 then some w :: none :: aSl t else some w :: aSl t)[i]? = some (some v) := h
    by_cases hc : w.category = 2
    · rw [if_pos hc]
      rw [hc] at h
      match i, h with
      | 0, h => cases h; exact List.mem_cons_self
      | 1, h => cases h
      | k + 2, h =>
        refine List.mem_cons_of_mem _ ?_
        have := aSl_args (ad := ad) (as := t) (i := k) (j := j + 2) (v := v) h
        rwa [show j + 2 + k = j + (k + 2) by omega] at this
    · rw [if_neg hc]
      have hb : Nat.beq w.category 2 = false := by
        cases hq : Nat.beq w.category 2
        · rfl
        · exact absurd (Nat.eq_of_beq_eq_true hq) hc
      rw [hb] at h
      match i, h with
      | 0, h => cases h; exact List.mem_cons_self
      | k + 1, h =>
        refine List.mem_cons_of_mem _ ?_
        have := aSl_args (ad := ad) (as := t) (i := k) (j := j + 1) (v := v) h
        rwa [show j + 1 + k = j + (k + 1) by omega] at this
theorem aEn_len {mid : Nat} {as : List Value} {N : aV} (h : (aSl as).length ≤ mL mid) : (aEn mid as N).2.1.length = mL mid := by
  show (aSl as ++ List.replicate (mL mid - (aSl as).length) none).length = _
  simp; omega
/-- a frame's run gives the method's contract -/
theorem aMet_of {l : Launch} {n : Nat} (ih : aFrm l n) {al : Bool} {mid : Nat} {as : List Value} {N : aV} {r : Option Value × aV} (hm : mid < mNm) (h : aX al n mid (aEn mid as N) = some r) (hs : (aSl as).length ≤ mL mid) (hlim : al = true → r.2.1.length < 1000000) (D : va_G) (dA : Nat → ClassId) (ad : Nat → Nat) (sz : Nat) : aMet l D dA ad al mid as N sz r := by
  obtain ⟨f1, f2, f3, f4, f5, f6, f7, f8⟩ := aMok_f hm
  unfold aMet
  refine Met.ofW (cc := mB mid) (maxL := mL mid) (ret := mR mid) (ws' := gw) f3 rfl ?_
  intro p e s m args below meth c s₁ B hml hv
  obtain ⟨rfl, hsz, hP, hD, hK, hE, hal⟩ := hv
  have hown : s.vm.findClass (aOn (mO mid)) = some m.cls := by rw [f4]; exact findClass_of_methodNamed B.named
  have hts : ∀ w ∈ gw, w.before ((as.map (aTv ad)).toArray) s = true := fun w hw => atoms_spec (ws := aWs mid) B.pre w (List.mem_cons_of_mem _ hw)
  have hmono := aX_mono h
  have hN : (aEn mid as N).2.2.2 = N := rfl
  rw [hN] at hmono
  rw [lg_entry_eq]
  have hl0 := lv_entry (as.map (aTv ad)) (n := mL mid) (by rw [aSl_len]; exact hs)
  have hL : aLh ad ((lg_sl (as.map (aTv ad)) ++ List.replicate (mL mid - (lg_sl (as.map (aTv ad))).length) Slot.unset).toArray) (aEn mid as N).2.1 := by
    refine ⟨_, by rw [aEn_len hs]; exact hl0, fun i v hi => ?_⟩
    have hi : (aSl as ++ List.replicate (mL mid - (aSl as).length) none)[i]? = some (some v) := hi
    by_cases hlt : i < (aSl as).length
    · rw [List.getElem?_append_left hlt] at hi
      have := aSl_args (ad := ad) (j := 0) hi
      rwa [Nat.zero_add] at this
    · rw [List.getElem?_append_right (by omega)] at hi
      have h1 := List.mem_of_getElem? hi
      have h2 := (List.mem_replicate.mp h1).2
      cases h2
  refine ih al mid (aEn mid as N) r hm h (aEn_len hs) D dA ad (va_A (aWl dA ad N) sz) p e _ s m _ below meth c s.heap [] 0 0 _ _ _ ⟨B.exec, B.bytes, hown, hts, ?_⟩ B.returns B.notSynchronized (fun hi => ?_) hml hK (fun q hq => Or.inr (by rw [← hsz]; exact hq)) ⟨hP, hD, va_S.rf⟩ hL (fun ha => ?_) rfl rfl ?_ ?_ (fun u h1 h2 h3 => ⟨rfl, h1, h2, h3⟩) (fun q hq => hq)
  · exact hE
  · unfold mIni at hi
    exact (name_of_methodNamed B.named B.method).1.trans (of_decide_eq_true hi)
  · obtain ⟨z1, z2, z3⟩ := hal ha
    refine ⟨z1, by rw [hsz, hN]; omega, fun q hq => ?_, hlim ha, z3⟩
    rcases hq with ⟨i, e, hq⟩ | hq
    · obtain ⟨k1, k2⟩ := aWl_at hq
      have k3 : q = ad i := congrArg Prod.fst k2
      have hl := hlim ha
      rw [k3, z1 i (by omega)]; omega
    · omega
  · show 0 + r.2.1.length = (r.2.1.length - N.1.length) + N.1.length
    omega
  · show 0 + csz r.2 = (csz r.2 - csz N) + csz N
    omega
theorem aCal_s {mid : Nat} {op : Instr} {st : List Value} {N : aV} {q : Nat × List Value × List Value} (h : aCal mid op st N = some q) : q.1 < mNm ∧ (aSl q.2.1).length ≤ mL q.1 := by
  unfold aCal at h
  split at h
  · obtain ⟨h1, rfl⟩ := aq_bif h
    simp only [Bool.and_eq_true, Nat.blt_eq, Nat.ble_eq] at h1
    exact ⟨h1.1.1.2, h1.2⟩
  · split at h
    · split at h
      · obtain ⟨h1, rfl⟩ := aq_bif h
        simp only [Bool.and_eq_true, Nat.blt_eq, Nat.ble_eq] at h1
        exact ⟨h1.1.1.1.2, h1.2⟩
      · cases h
    · cases h
  · split at h
    · obtain ⟨h1, rfl⟩ := aq_bif h
      simp only [Bool.and_eq_true, Nat.blt_eq, Nat.ble_eq] at h1
      exact ⟨h1.1.1.2, h1.2⟩
    · cases h
  · cases h
theorem aRet_tv {mid : Nat} {op : Instr} {st : List Value} {r : Option Value} (h : aRet mid op st = some r) (ad : Nat → Nat) : r.toList.map (aTv ad) = r.toList := by
  unfold aRet at h
  split at h
  · obtain ⟨-, rfl⟩ := aq_bif h; rfl
  · obtain ⟨-, rfl⟩ := aq_bif h; rfl
  · obtain ⟨-, rfl⟩ := aq_bif h; rfl
  · cases h
theorem aNm_tv {as : List Value} {N : aV} {v : Option Value × aV} (h : aNm as N = some v) (ad : Nat → Nat) : v.1.toList.map (aTv ad) = v.1.toList := by
  unfold aNm at h
  split at h
  · split at h
    · split at h
      · obtain ⟨-, rfl⟩ := aq_bif h; rfl
      · cases h
    · cases h
  · cases h
theorem aX_tv {al : Bool} (ad : Nat → Nat) : ∀ {n mid : Nat} {t : aS} {r : Option Value × aV}, aX al n mid t = some r → r.1.toList.map (aTv ad) = r.1.toList
  | 0, _, _, _, h => by cases h
  | n + 1, mid, t, r, h => by
    rw [aX_s] at h
    split at h
    · exact aX_tv ad h
    · rename_i s' hs
      cases h
      obtain ⟨op, len, -, ho⟩ := aStp_inv hs
      rcases aOp_inv ho with ⟨st, -, hx⟩ | ⟨st, -, hx⟩ | ⟨st, -, hx⟩ | ⟨st, hm, hx⟩ | ⟨st, -, -, hx⟩ | ⟨st, hr, hx⟩ | ⟨st, -, -, hx⟩ <;> cases hx
      exact aRet_tv hr ad
    · split at h
      · exact aX_tv ad h
      · cases h
    · cases h
theorem aLoc_len {op : Instr} {ls : aL} {st : List Value} {q : aL × List Value} (h : aLoc op ls st = some q) : q.1.length = ls.length := by
  unfold aLoc at h
  split at h
  · split at h
    · cases h; rfl
    · cases h
  · split at h
    · cases h; rfl
    · cases h
  · split at h
    · cases h; rfl
    · cases h
  · obtain ⟨-, rfl⟩ := aq_bif h; simp [aClr_len]
  · obtain ⟨-, rfl⟩ := aq_bif h; simp [aClr_len]
  · obtain ⟨-, rfl⟩ := aq_bif h; simp [aClr_len]
  · split at h
    · cases h; simp [aClr_len]
    · cases h
  · cases h
set_option maxHeartbeats 4000000 in
theorem aRun {l : Launch} (hnm : aNmOk l) : ∀ n, aFrm l n
  | 0 => fun _ _ _ _ _ h => by cases h
  | n + 1 => by
    intro al mid t res hm h hlen D dA ad A p e R s m args below meth c H locs cells slots rl Qc free F hr hlk hin hml hK hA hW hL hz hR1 hR2 hc hs hQ hf
    have ih := aRun hnm n
    have hmono := aX_mono h
    rw [aX_s] at h
    have hsz : rl.size = mL mid := by
      obtain ⟨lv, h1, -⟩ := hL
      rw [← hlen]; exact h1.1
    have hv := (aMok_f hm).2.2.2.2.2.2.1
    split at h
    · rename_i s' hs'
      obtain ⟨op, len, hat, ho⟩ := aStp_inv hs'
      obtain ⟨ri, hd, hl, ht, hof⟩ := aAt_ok hm hat
      have hm2 := aX_mono h
      rcases aOp_inv ho with ⟨st, h1, hx⟩ | ⟨q, h1, hx⟩ | ⟨q, h1, hx⟩ | ⟨q, h1, hx⟩ | ⟨q, -, h1, hx⟩ | ⟨q, h1, hx⟩ | ⟨st, hg, h1, hx⟩ <;> cases hx
      · exact aPureW F hW.2.2 hd hl ht h1 (ih al mid _ res hm h hlen D dA ad A p e R s m args below meth c H locs cells slots rl Qc free F hr hlk hin hml hK hA hW hL hz hR1 hR2 hc hs hQ hf)
      · refine aLocW F hL hd hl ht h1 (fun rl' hL' => ?_)
        exact ih al mid _ res hm h (by rw [← hlen]; exact aLoc_len h1) D dA ad A p e R s m args below meth c H locs cells slots rl' Qc free F hr hlk hin hml hK hA hW hL' hz hR1 hR2 hc hs hQ hf
      · exact aBrW F hd hl hof ht h1 (ih al mid _ res hm h hlen D dA ad A p e R s m args below meth c H locs cells slots rl Qc free F hr hlk hin hml hK hA hW hL hz hR1 hR2 hc hs hQ hf)
      · have hmm := aMem_mono h1
        have hm2a : q.2.1.length ≤ res.2.1.length := hm2.1
        have hm2b : csz q.2 ≤ csz res.2 := hm2.2
        refine aMemW F hK hA hW hin (fun ha => ⟨(hz ha).1, (hz ha).2.1, (hz ha).2.2.1, ?_, (hz ha).2.2.2.2⟩) ⟨by omega, by omega⟩ hd hl ht h1 (fun H' locs' cells' slots' hW' k1 k2 => ?_)
        · have := (hz ha).2.2.2.1; omega
        · refine ih al mid _ res hm h hlen D dA ad A p e R s m args below meth c H' locs' cells' slots' rl Qc free F hr hlk hin hml hK hA hW' hL (fun ha => ⟨(hz ha).1, ?_, (hz ha).2.2.1, (hz ha).2.2.2.1, ?_⟩) hR1 hR2 ?_ ?_ hQ hf
          · have := (hz ha).2.1
            show s.heap.size + cells' = ad 0 + q.2.1.length
            omega
          · have := (hz ha).2.2.2.2
            show 0 < q.2.1.length
            omega
          · show cells' + res.2.1.length = R.cells + q.2.1.length
            omega
          · show slots' + csz res.2 = R.slots + csz q.2
            omega
      · exact aSpcW F (hml.trans hsz.symm) (by omega) (by omega) (by omega) (by omega) hd hl ht hg h1 (ih al mid _ res hm h hlen D dA ad A p e R s m args below meth c H locs cells slots rl Qc free F hr hlk hin hml hK hA hW hL hz hR1 hR2 hc hs hQ hf)
    · rename_i r0 hs'
      cases h
      obtain ⟨op, len, hat, ho⟩ := aStp_inv hs'
      obtain ⟨ri, hd, hl, ht, hof⟩ := aAt_ok hm hat
      rcases aOp_inv ho with ⟨st, h1, hx⟩ | ⟨q, h1, hx⟩ | ⟨q, h1, hx⟩ | ⟨q, h1, hx⟩ | ⟨q, -, h1, hx⟩ | ⟨q, h1, hx⟩ | ⟨st, hg, h1, hx⟩ <;> cases hx
      have e1 : cells = R.cells := by
        have : cells + t.2.2.2.1.length = R.cells + t.2.2.2.1.length := hc
        omega
      have e2 : slots = R.slots := by
        have : slots + csz t.2.2.2 = R.slots + csz t.2.2.2 := hs
        omega
      rw [← e1, ← e2]
      exact aRetW F hr hlk hd hl ht h1 (fun u hu hWm => hQ u (by rw [hu]; exact hW.1) hW.2.1 (hW.2.2.F hu)) (fun q hq => hf _ (hW.2.2.2.2 q hq))
    · rename_i q0 hs'
      obtain ⟨op, len, hat, ho⟩ := aStp_inv hs'
      obtain ⟨ri, hd, hl, ht, hof⟩ := aAt_ok hm hat
      rcases aOp_inv ho with ⟨st, h1, hx⟩ | ⟨q, h1, hx⟩ | ⟨q, h1, hx⟩ | ⟨q, h1, hx⟩ | ⟨q, hg, h1, hx⟩ | ⟨q, h1, hx⟩ | ⟨st, hg, h1, hx⟩ <;> cases hx
      obtain ⟨c1, c2⟩ := aCal_s h1
      split at h
      · rename_i v hv2
        have hm2 := aX_mono h
        have hm2a : v.2.1.length ≤ res.2.1.length := hm2.1
        have hm2b : csz v.2 ≤ csz res.2 := hm2.2
        have hcall : t.2.2.2.1.length ≤ v.2.1.length ∧ csz t.2.2.2 ≤ csz v.2 ∧ v.1.toList.map (aTv ad) = v.1.toList ∧ aMet l D dA ad al q.1 q.2.1 t.2.2.2 H.size v := by
          cases hb : Nat.beq q.1 mIsName <;> simp only [hb, cond_true, cond_false] at hv2
          · have := aX_mono hv2
            exact ⟨this.1, this.2, aX_tv ad hv2, aMet_of ih c1 hv2 c2 (fun ha => by have := (hz ha).2.2.2.1; omega) D dA ad H.size⟩
          · have hq := Nat.eq_of_beq_eq_true hb
            have e := aNm_same hv2
            refine ⟨by rw [e]; exact Nat.le_refl _, by rw [e]; exact Nat.le_refl _, aNm_tv hv2 ad, ?_⟩
            rw [hq]
            exact hnm D dA ad al _ _ _ _ hv2
        obtain ⟨m1, m2, m3, hM⟩ := hcall
        intro T hT X
        refine aCalW F (hml.trans hsz.symm) hK hA hW (fun ha => ?_) hR1 hR2 ?_ ?_ hd hl ht hg h1 hM (fun H' locs' hW' => ?_) T hT X
        · obtain ⟨z1, z2, z3, z4, z5⟩ := hz ha
          refine ⟨z1, ?_, z5⟩
          have hb2 : T.heap.size ≤ s.heap.size + cells := X.same.2.2.1
          rw [hT] at hb2
          have hlast : (aWl dA ad t.2.2.2)[t.2.2.2.1.length - 1]? = some (ad (t.2.2.2.1.length - 1), aE dA ad t.2.2.2 (t.2.2.2.1.length - 1) (t.2.2.2.1.getD (t.2.2.2.1.length - 1) (0, 0))) := aWl_get (by simp [List.getD, List.getElem?_eq_getElem (show t.2.2.2.1.length - 1 < t.2.2.2.1.length by omega)])
          have hlt : ad (t.2.2.2.1.length - 1) < H.size := (hW.1 _ _ hlast).lt
          rw [z1 _ (by omega)] at hlt
          omega
        · omega
        · omega
        · have h3 := ih al mid _ res hm h hlen D dA ad A p e R s m args below meth c H' locs' (cells + (v.2.1.length - t.2.2.2.1.length)) (slots + (csz v.2 - csz t.2.2.2)) rl Qc free F hr hlk hin hml hK hA hW' hL (fun ha => ⟨(hz ha).1, ?_, (hz ha).2.2.1, (hz ha).2.2.2.1, ?_⟩) hR1 hR2 ?_ ?_ hQ hf
          · rw [List.map_append, m3] at h3
            exact h3
          · have := (hz ha).2.1
            show s.heap.size + (cells + (v.2.1.length - t.2.2.2.1.length)) = ad 0 + v.2.1.length
            omega
          · have := (hz ha).2.2.2.2
            show 0 < v.2.1.length
            omega
          · show cells + (v.2.1.length - t.2.2.2.1.length) + res.2.1.length = R.cells + v.2.1.length
            omega
          · show slots + (csz v.2 - csz t.2.2.2) + csz res.2 = R.slots + csz v.2
            omega
      · cases h
    · cases h
