/-! a run of the abstract machine is one of the machine's -/
theorem aNews_len {N : aV} {e : Nat × Nat} (i : Nat) : (aNews N e i).1.length = N.1.length + i ∧ csz (aNews N e i) = csz N + i * e.2 := ⟨(aNews_at i).1, (aNews_at i).2.1⟩
theorem aPut_sh {N N' : aV} {c j a : Nat} {v : Value} (h : aPut N c j a v = some N') : N'.1 = N.1 := by
  unfold aPut at h
  split at h
  · rename_i c' n hq
    cases hb : Nat.beq c' c && Nat.blt j n <;> rw [hb] at h
    · cases h
    · simp only [cond_true] at h
      split at h <;> first | (cases h; rfl) | cases h
  · cases h
set_option maxHeartbeats 4000000 in
theorem aMem_mono {al : Bool} {op : Instr} {st : List Value} {N : aV} {q : List Value × aV} (h : aMem al op st N = some q) : N.1.length ≤ q.2.1.length ∧ csz N ≤ csz q.2 := by
  cases op
  case getfield f =>
    rcases st with _ | ⟨_ | _ | _ | _ | _ | _ | _, st⟩ <;> try exact aq_n h rfl
    simp only [aMem] at h
    split at h
    · cases h
      exact ⟨Nat.le_refl _, Nat.le_refl _⟩
    · cases h
  case putfield f =>
    rcases st with _ | ⟨v, st⟩ <;> try exact aq_n h rfl
    rcases st with _ | ⟨_ | _ | _ | _ | _ | _ | _, st⟩ <;> try (cases v <;> exact aq_n h rfl)
    rename_i a
    have h : (match aPut N (f / 100) (f % 100) a v with | some N2 => some (st, N2) | none => none) = some q := h
    split at h
    · rename_i hp
      cases h
      have := aPut_sh hp
      exact ⟨Nat.le_of_eq (by rw [this]), Nat.le_of_eq (by unfold csz; rw [this])⟩
    · cases h
  case iaload =>
    rcases st with _ | ⟨_ | _ | _ | _ | _ | _ | _, st⟩ <;> try exact aq_n h rfl
    rcases st with _ | ⟨_ | _ | _ | _ | _ | _ | _, st⟩ <;> try exact aq_n h rfl
    simp only [aMem] at h
    rename_i i a
    cases hb : Nat.ble 1000000 a <;> rw [hb] at h <;> simp only [cond_true, cond_false] at h
    · split at h
      · obtain ⟨-, rfl⟩ := aq_bif h
        exact ⟨Nat.le_refl _, Nat.le_refl _⟩
      · cases h
    · obtain ⟨-, rfl⟩ := aq_bif h
      exact ⟨Nat.le_refl _, Nat.le_refl _⟩
  case baload =>
    rcases st with _ | ⟨_ | _ | _ | _ | _ | _ | _, st⟩ <;> try exact aq_n h rfl
    rcases st with _ | ⟨_ | _ | _ | _ | _ | _ | _, st⟩ <;> try exact aq_n h rfl
    simp only [aMem] at h
    split at h
    · obtain ⟨-, rfl⟩ := aq_bif h
      exact ⟨Nat.le_refl _, Nat.le_refl _⟩
    · cases h
  case laload =>
    rcases st with _ | ⟨_ | _ | _ | _ | _ | _ | _, st⟩ <;> try exact aq_n h rfl
    rcases st with _ | ⟨_ | _ | _ | _ | _ | _ | _, st⟩ <;> try exact aq_n h rfl
    simp only [aMem] at h
    split at h
    · obtain ⟨-, rfl⟩ := aq_bif h
      exact ⟨Nat.le_refl _, Nat.le_refl _⟩
    · cases h
  case aaload =>
    rcases st with _ | ⟨_ | _ | _ | _ | _ | _ | _, st⟩ <;> try exact aq_n h rfl
    rcases st with _ | ⟨_ | _ | _ | _ | _ | _ | _, st⟩ <;> try exact aq_n h rfl
    simp only [aMem] at h
    split at h
    · obtain ⟨-, rfl⟩ := aq_bif h
      exact ⟨Nat.le_refl _, Nat.le_refl _⟩
    · cases h
  case iastore =>
    rcases st with _ | ⟨_ | _ | _ | _ | _ | _ | _, st⟩ <;> try exact aq_n h rfl
    rcases st with _ | ⟨_ | _ | _ | _ | _ | _ | _, st⟩ <;> try exact aq_n h rfl
    rcases st with _ | ⟨_ | _ | _ | _ | _ | _ | _, st⟩ <;> try exact aq_n h rfl
    simp only [aMem] at h
    split at h
    · obtain ⟨-, rfl⟩ := aq_bif h
      exact ⟨Nat.le_refl _, Nat.le_refl _⟩
    · cases h
  case bastore =>
    rcases st with _ | ⟨_ | _ | _ | _ | _ | _ | _, st⟩ <;> try exact aq_n h rfl
    rcases st with _ | ⟨_ | _ | _ | _ | _ | _ | _, st⟩ <;> try exact aq_n h rfl
    rcases st with _ | ⟨_ | _ | _ | _ | _ | _ | _, st⟩ <;> try exact aq_n h rfl
    simp only [aMem] at h
    split at h
    · obtain ⟨-, rfl⟩ := aq_bif h
      exact ⟨Nat.le_refl _, Nat.le_refl _⟩
    · cases h
  case lastore =>
    rcases st with _ | ⟨_ | _ | _ | _ | _ | _ | _, st⟩ <;> try exact aq_n h rfl
    rcases st with _ | ⟨_ | _ | _ | _ | _ | _ | _, st⟩ <;> try exact aq_n h rfl
    rcases st with _ | ⟨_ | _ | _ | _ | _ | _ | _, st⟩ <;> try exact aq_n h rfl
    simp only [aMem] at h
    split at h
    · obtain ⟨-, rfl⟩ := aq_bif h
      exact ⟨Nat.le_refl _, Nat.le_refl _⟩
    · cases h
  case aastore =>
    rcases st with _ | ⟨_ | _ | _ | _ | _ | _ | _, st⟩ <;> try exact aq_n h rfl
    rcases st with _ | ⟨_ | _ | _ | _ | _ | _ | _, st⟩ <;> try exact aq_n h rfl
    rcases st with _ | ⟨_ | _ | _ | _ | _ | _ | _, st⟩ <;> try exact aq_n h rfl
    simp only [aMem] at h
    split at h
    · obtain ⟨-, rfl⟩ := aq_bif h
      exact ⟨Nat.le_refl _, Nat.le_refl _⟩
    · cases h
  case arraylength =>
    rcases st with _ | ⟨_ | _ | _ | _ | _ | _ | _, st⟩ <;> try exact aq_n h rfl
    simp only [aMem] at h
    split at h
    · obtain ⟨-, rfl⟩ := aq_bif h
      exact ⟨Nat.le_refl _, Nat.le_refl _⟩
    · cases h
  case new i =>
    obtain ⟨-, rfl⟩ := aq_bif (show (bif al && Nat.blt i 12 then some (Value.ref N.1.length :: st, aNew N (i, aNF i)) else none) = some q from h)
    exact ⟨by rw [aLen_new]; omega, by rw [csz_new]; omega⟩
  case newarray t =>
    rcases st with _ | ⟨_ | _ | _ | _ | _ | _ | _, st⟩ <;> try exact aq_n h rfl
    rename_i n
    obtain ⟨-, rfl⟩ := aq_bif h
    exact ⟨by rw [aLen_new]; omega, by rw [csz_new]; omega⟩
  case anewarray t =>
    rcases st with _ | ⟨_ | _ | _ | _ | _ | _ | _, st⟩ <;> try exact aq_n h rfl
    rename_i n
    obtain ⟨-, rfl⟩ := aq_bif h
    exact ⟨by rw [aLen_new]; omega, by rw [csz_new]; omega⟩
  case multianewarray t d =>
    rcases st with _ | ⟨_ | _ | _ | _ | _ | _ | _, st⟩ <;> try exact aq_n h rfl
    rcases st with _ | ⟨_ | _ | _ | _ | _ | _ | _, st⟩ <;> try exact aq_n h rfl
    rename_i k n
    obtain ⟨-, rfl⟩ := aq_bif h
    obtain ⟨h1, h2⟩ := aNews_len (N := aNew N (26, n.toNatClampNeg)) (e := (20, k.toNatClampNeg)) n.toNatClampNeg
    refine ⟨?_, ?_⟩
    · show N.1.length ≤ (aNews (aNew N (26, n.toNatClampNeg)) (20, k.toNatClampNeg) n.toNatClampNeg).1.length
      rw [h1, aLen_new]; omega
    · show csz N ≤ csz (aNews (aNew N (26, n.toNatClampNeg)) (20, k.toNatClampNeg) n.toNatClampNeg)
      rw [h2, csz_new]; omega
  all_goals exact aq_n h rfl
theorem aOp_inv {al : Bool} {mid : Nat} {op : Instr} {len : Nat} {t : aS} {x : aR} (h : aOp al mid op len t = some x) :
    (∃ st, aPure op t.2.2.1 = some st ∧ x = .inl (t.1 + len, t.2.1, st, t.2.2.2)) ∨ (∃ q, aLoc op t.2.1 t.2.2.1 = some q ∧ x = .inl (t.1 + len, q.1, q.2, t.2.2.2)) ∨ (∃ q, aBr op t.1 len t.2.2.1 = some q ∧ x = .inl (q.1, t.2.1, q.2, t.2.2.2)) ∨ (∃ q, aMem al op t.2.2.1 t.2.2.2 = some q ∧ x = .inl (t.1 + len, t.2.1, q.1, q.2)) ∨
    (∃ q, aGrp op = 4 ∧ aCal mid op t.2.2.1 t.2.2.2 = some q ∧ x = .inr (.inr (q.1, q.2.1, t.1 + len, t.2.1, q.2.2, t.2.2.2))) ∨ (∃ q, aRet mid op t.2.2.1 = some q ∧ x = .inr (.inl (q, t.2.2.2))) ∨ (∃ st, aGrp op ≠ 4 ∧ aSpc op t.2.2.1 = some st ∧ x = .inl (t.1 + len, t.2.1, st, t.2.2.2)) := by
  unfold aOp at h
  split at h
  · split at h
    · rename_i st hs; cases h; exact Or.inl ⟨st, hs, rfl⟩
    · cases h
  · split at h
    · rename_i st hs; cases h; exact Or.inr (Or.inl ⟨st, hs, rfl⟩)
    · cases h
  · split at h
    · rename_i st hs; cases h; exact Or.inr (Or.inr (Or.inl ⟨st, hs, rfl⟩))
    · cases h
  · split at h
    · rename_i st hs; cases h; exact Or.inr (Or.inr (Or.inr (Or.inl ⟨st, hs, rfl⟩)))
    · cases h
  · split at h
    · rename_i hg _ st hs; cases h; exact Or.inr (Or.inr (Or.inr (Or.inr (Or.inl ⟨st, by assumption, hs, rfl⟩))))
    · cases h
  · split at h
    · rename_i st hs; cases h; exact Or.inr (Or.inr (Or.inr (Or.inr (Or.inr (Or.inl ⟨st, hs, rfl⟩)))))
    · cases h
  · split at h
    · rename_i h4 _ _ st hs; cases h; refine Or.inr (Or.inr (Or.inr (Or.inr (Or.inr (Or.inr ⟨st, ?_, hs, rfl⟩))))); assumption
    · cases h
theorem aStp_inv {al : Bool} {mid : Nat} {t : aS} {x : aR} (h : aStp al mid t = some x) : ∃ op len, aAt (mK mid) t.1 = some (op, len) ∧ aOp al mid op len t = some x := by
  unfold aStp at h
  split at h
  · rename_i q hq; exact ⟨q.1, q.2, hq, h⟩
  · cases h
theorem aX_s {al : Bool} {n mid : Nat} {t : aS} : aX al (n + 1) mid t = match aStp al mid t with
    | some (.inl s') => aX al n mid s'
    | some (.inr (.inl r)) => some r
    | some (.inr (.inr q)) => match (bif Nat.beq q.1 mIsName then aNm q.2.1 q.2.2.2.2.2 else aX al n q.1 (aEn q.1 q.2.1 q.2.2.2.2.2)) with
      | some v => aX al n mid (q.2.2.1, q.2.2.2.1, v.1.toList ++ q.2.2.2.2.1, v.2)
      | none => none
    | none => none := rfl
theorem aNm_same {as : List Value} {N : aV} {v : Option Value × aV} (h : aNm as N = some v) : v.2 = N := by
  unfold aNm at h
  split at h
  · split at h
    · split at h
      · obtain ⟨-, rfl⟩ := aq_bif h; rfl
      · cases h
    · cases h
  · cases h
theorem aX_mono {al : Bool} : ∀ {n mid : Nat} {t : aS} {r : Option Value × aV}, aX al n mid t = some r → t.2.2.2.1.length ≤ r.2.1.length ∧ csz t.2.2.2 ≤ csz r.2
  | 0, _, _, _, h => by cases h
  | n + 1, mid, t, r, h => by
    rw [aX_s] at h
    split at h
    · rename_i s' hs
      have ih := aX_mono h
      obtain ⟨op, len, -, ho⟩ := aStp_inv hs
      rcases aOp_inv ho with ⟨st, -, hx⟩ | ⟨st, -, hx⟩ | ⟨st, -, hx⟩ | ⟨st, hm, hx⟩ | ⟨st, -, -, hx⟩ | ⟨st, -, hx⟩ | ⟨st, -, -, hx⟩ <;> cases hx
      · exact ih
      · exact ih
      · exact ih
      · obtain ⟨a1, a2⟩ := aMem_mono hm
        exact ⟨Nat.le_trans a1 ih.1, Nat.le_trans a2 ih.2⟩
      · exact ih
    · rename_i s' hs
      cases h
      obtain ⟨op, len, -, ho⟩ := aStp_inv hs
      rcases aOp_inv ho with ⟨st, -, hx⟩ | ⟨st, -, hx⟩ | ⟨st, -, hx⟩ | ⟨st, hm, hx⟩ | ⟨st, -, -, hx⟩ | ⟨st, -, hx⟩ | ⟨st, -, -, hx⟩ <;> cases hx
      exact ⟨Nat.le_refl _, Nat.le_refl _⟩
    · rename_i q hs
      obtain ⟨op, len, -, ho⟩ := aStp_inv hs
      rcases aOp_inv ho with ⟨st, -, hx⟩ | ⟨st, -, hx⟩ | ⟨st, -, hx⟩ | ⟨st, hm, hx⟩ | ⟨st, -, -, hx⟩ | ⟨st, -, hx⟩ | ⟨st, -, -, hx⟩ <;> cases hx
      split at h
      · rename_i v hv
        have ih := aX_mono h
        cases hb : Nat.beq st.1 mIsName <;> simp only [hb, cond_true, cond_false] at hv
        · have ih2 := aX_mono hv
          exact ⟨Nat.le_trans ih2.1 ih.1, Nat.le_trans ih2.2 ih.2⟩
        · have := aNm_same hv
          rw [this] at ih
          exact ih
      · cases h
    · cases h
theorem aAt_in {k : aI} {q : Nat} {op : Instr} {len : Nat} (h : aAt k q = some (op, len)) : (q, op, len) ∈ k := by
  induction k with
  | nil => cases h
  | cons e t ih =>
    obtain ⟨e1, e2⟩ := e
    have h : (bif Nat.beq e1 q then some e2 else aAt t q) = some (op, len) := h
    cases hb : Nat.beq e1 q <;> rw [hb] at h
    · exact List.mem_cons_of_mem _ (ih h)
    · have h : some e2 = some (op, len) := h
      have := Nat.eq_of_beq_eq_true hb
      cases h
      rw [← this]
      exact List.mem_cons_self
theorem aAt_ok {mid pc : Nat} {op : Instr} {len : Nat} (hm : mid < mNm) (h : aAt (mK mid) pc = some (op, len)) : ∃ ri, decode (mB mid) pc = .ok (ri, len) ∧ (aLen ri = 0 ∨ len = aLen ri) ∧ aTr (mO mid) (mIni mid) ri = some op ∧ ∀ z ∈ aOff ri, 0 ≤ (pc : Int) + z := by
  have h1 := List.all_eq_true.mp (aOk_all hm) _ (aAt_in h)
  unfold aOkI at h1
  split at h1
  · rename_i ri n hd
    simp only [Bool.and_eq_true, Bool.or_eq_true, Nat.beq_eq, decide_eq_true_eq, List.all_eq_true] at h1
    obtain ⟨⟨⟨rfl, h2⟩, h3⟩, h4⟩ := h1
    exact ⟨ri, hd, h2.imp id (fun q => q.symm), h3, h4⟩
  · cases h1
theorem aCat_sum {ad : Nat → Nat} : ∀ {r : List Value}, ((r.map (aTv ad)).map fun v => v.category).sum = aCat r
  | [] => rfl
  | v :: t => by
    show (aTv ad v).category + ((t.map (aTv ad)).map fun v => v.category).sum = v.category + aCat t
    rw [aTv_cat, aCat_sum]
section ARUN
variable {p : Program} {l : Launch} {e : Env} {R : Room} {s : State} {m : MethodId} {args : Array Value} {below : List Frame} {meth : Method} {c : Code} {H : Heap} {locs : List Loc} {cells slots : Nat} {Q : State → Prop}
variable {cc : ByteArray} {pc len o : Nat} {ini al : Bool} {rl : Array Slot} {ad : Nat → Nat} {A : Nat → Prop} {ri op : Instr} {D : va_G} {dA : Nat → ClassId} {N : aV}
theorem aMr_at {k : Nat} {r : Nat × Nat × Nat × Bool × Nat} (hr : (aMr.find? fun r => Nat.beq r.1 o && Nat.beq r.2.1 k) = some r) : (r.2.2.1 = 999 ∧ Jvm.Cond.methodLink (aOn o) k objectInit ∈ gw) ∨ (r.2.2.1 = 997 ∧ Jvm.Cond.methodLink (aOn o) k Lib.Math.max.name ∈ gw) ∨ (r.2.2.1 = 998 ∧ Jvm.Cond.methodLink (aOn o) k Lib.Math.min.name ∈ gw) ∨ (r.2.2.1 < mNm ∧ (Jvm.Cond.methodLinkNest (aOn o) k (mY r.2.2.1) "EdgeChain" ∈ aNst ∨ Jvm.Cond.methodLink (aOn o) k (mY r.2.2.1) ∈ gw)) := by
  have h1 := List.find?_some hr
  have h2 := List.all_eq_true.mp aMr_ok r (List.mem_of_find?_eq_some hr)
  simp only [Bool.and_eq_true, Nat.beq_eq] at h1
  unfold aMrOk at h2
  rw [h1.1, h1.2] at h2
  cases h9 : Nat.beq r.2.2.1 999 <;> rw [h9] at h2
  · simp only [cond_false] at h2
    cases h7 : Nat.beq r.2.2.1 997 <;> rw [h7] at h2
    · simp only [cond_false] at h2
      cases h8 : Nat.beq r.2.2.1 998 <;> rw [h8] at h2
      · simp only [cond_false, Bool.and_eq_true, Nat.blt_eq] at h2
        refine Or.inr (Or.inr (Or.inr ⟨h2.1, ?_⟩))
        cases hb : r.2.2.2.1 <;> rw [hb] at h2
        · exact Or.inr (aTw_in h2.2)
        · exact Or.inl (of_decide_eq_true h2.2)
      · exact Or.inr (Or.inr (Or.inl ⟨Nat.eq_of_beq_eq_true h8, aTw_in h2⟩))
    · exact Or.inr (Or.inl ⟨Nat.eq_of_beq_eq_true h7, aTw_in h2⟩)
  · exact Or.inl ⟨Nat.eq_of_beq_eq_true h9, aTw_in h2⟩
set_option maxHeartbeats 4000000 in
theorem aSpcW {st st' : List Value} (F : aFix p s m args c cc o ad A) (hml : c.maxLocals = rl.size) (hR1 : 1 ≤ R.frames) (hR2 : 32 ≤ R.locals) (hc : cells ≤ R.cells) (hs : slots ≤ R.slots) (hd : decode cc pc = .ok (ri, len)) (hl : aLen ri = 0 ∨ len = aLen ri) (ht : aTr o ini ri = some op) (hg : aGrp op ≠ 4) (h : aSpc op st = some st')
    (k : W p l e R s m args below meth c H locs cells slots Q (F0 m (pc + len) rl (st'.map (aTv ad)))) : W p l e R s m args below meth c H locs cells slots Q (F0 m pc rl (st.map (aTv ad))) := by
  obtain ⟨hx, hb, hown, hts, hE⟩ := F
  cases ri
  case invokespecial i =>
    simp only [aTr] at ht
    obtain ⟨r, hr, rfl⟩ := aq_m ht
    obtain rfl := aq_l 3 hl rfl (by decide)
    rcases st with _ | ⟨_ | _ | _ | _ | _ | _ | _, st⟩ <;> try exact aq_n h rfl
    rename_i a
    have h : (bif Nat.ble (aCat st) 8 then some st else none) = some st' := h
    obtain ⟨h1, rfl⟩ := aq_bif h
    rw [Nat.ble_eq] at h1
    have h9 : r.2.2.1 = 999 := by
      cases h9 : Nat.beq r.2.2.1 999
      · exact absurd (show aGrp (.invokespecial r.2.2.1) = 4 by show (bif Nat.beq r.2.2.1 999 then 6 else 4) = 4; rw [h9]; rfl) hg
      · exact Nat.eq_of_beq_eq_true h9
    rcases aMr_at hr with ⟨-, q⟩ | ⟨q, -⟩ | ⟨q, -⟩ | ⟨q, -⟩
    · have h2 := lv_room (m := m) (pc := pc) (ls := rl) (rest := (Value.ref a :: st).map (aTv ad)) (st := st.map (aTv ad)) (by rw [aCat_sum]; exact h1)
      exact W.objInit hx hb hown (hts _ q) (hts _ aObj_i) (hts _ aObj_c) rfl hml.symm rfl hd hR1 (by omega) k
    · omega
    · omega
    · unfold mNm at q; omega
  case invokestatic i =>
    simp only [aTr] at ht
    obtain ⟨r, hr, rfl⟩ := aq_m ht
    obtain rfl := aq_l 3 hl rfl (by decide)
    rcases st with _ | ⟨_ | _ | _ | _ | _ | _ | _, st⟩ <;> try exact aq_n h rfl
    rcases st with _ | ⟨_ | _ | _ | _ | _ | _ | _, st⟩ <;> try exact aq_n h rfl
    rename_i y x
    have h : (bif Nat.ble (aCat st) 8 then (bif Nat.beq r.2.2.1 997 then some (Value.int (if x < y then y else x) :: st) else bif Nat.beq r.2.2.1 998 then some (Value.int (if y < x then y else x) :: st) else none) else none) = some st' := h
    cases h1 : Nat.ble (aCat st) 8 <;> rw [h1] at h <;> simp only [cond_true, cond_false] at h
    · cases h
    rw [Nat.ble_eq] at h1
    cases h7 : Nat.beq r.2.2.1 997 <;> rw [h7] at h <;> simp only [cond_true, cond_false] at h
    · cases h8 : Nat.beq r.2.2.1 998 <;> rw [h8] at h <;> simp only [cond_true, cond_false] at h
      · cases h
      · cases h
        have h8 := Nat.eq_of_beq_eq_true h8
        rcases aMr_at hr with ⟨q, -⟩ | ⟨q, -⟩ | ⟨-, q⟩ | ⟨q, -⟩
        · omega
        · omega
        · exact va_mmin hx hb hml hown (hts _ q) (hts _ aMath_min.1) (hts _ aMath_i) (hts _ aMath_min.2) hR1 (by rw [aCat_sum]; omega) hc hs hd k
        · unfold mNm at q; omega
    · cases h
      have h7 := Nat.eq_of_beq_eq_true h7
      rcases aMr_at hr with ⟨q, -⟩ | ⟨-, q⟩ | ⟨q, -⟩ | ⟨q, -⟩
      · omega
      · exact va_mmax hx hb hml hown (hts _ q) (hts _ aMath_max.1) (hts _ aMath_i) (hts _ aMath_max.2) hR1 (by rw [aCat_sum]; omega) hc hs hd k
      · omega
      · unfold mNm at q; omega
  case getfield i =>
    simp only [aTr] at ht
    obtain ⟨r, hr, rfl⟩ := aq_m ht
    exact aq_n h rfl
  case getstatic i =>
    simp only [aTr] at ht
    obtain ⟨r, hr, rfl⟩ := aq_m ht
    exact aq_n h rfl
  case invokevirtual i =>
    simp only [aTr] at ht
    obtain ⟨r, hr, rfl⟩ := aq_m ht
    exact aq_n h rfl
  case new i =>
    simp only [aTr] at ht
    obtain ⟨r, hr, rfl⟩ := aq_m ht
    exact aq_n h rfl
  case ldc_w i =>
    simp only [aTr] at ht
    obtain ⟨r, hr, rfl⟩ := aq_m ht
    exact aq_n h rfl
  case ldc2_w i =>
    simp only [aTr] at ht
    obtain ⟨r, hr, rfl⟩ := aq_m ht
    exact aq_n h rfl
  case putfield i =>
    simp only [aTr] at ht
    obtain ⟨r, hr, ht⟩ := aq_b ht
    obtain ⟨-, rfl⟩ := aq_c ht
    exact aq_n h rfl
  case ldc i =>
    simp only [aTr] at ht
    split at ht
    · cases ht
      exact aq_n h rfl
    · obtain ⟨r, hr, rfl⟩ := aq_m ht
      exact aq_n h rfl
  case anewarray i =>
    simp only [aTr] at ht
    obtain ⟨r, hr, ht⟩ := aq_b ht
    revert ht
    cases Nat.beq r.2.2.1 3 <;> cases Nat.beq r.2.2.1 1 <;> cases Nat.beq r.2.2.1 7 <;> intro ht <;> cases ht <;> exact aq_n h rfl
  case multianewarray i d =>
    simp only [aTr] at ht
    obtain ⟨-, rfl⟩ := aq_c ht
    exact aq_n h rfl
  case lookupswitch d ps =>
    simp only [aTr] at ht
    obtain ⟨-, rfl⟩ := aq_c ht
    exact aq_n h rfl
  case iinc i n =>
    simp only [aTr] at ht
    obtain ⟨-, rfl⟩ := aq_c ht
    exact aq_n h rfl
  case iconst n =>
    simp only [aTr] at ht
    obtain ⟨-, rfl⟩ := aq_c ht
    exact aq_n h rfl
  case bipush n =>
    simp only [aTr] at ht
    obtain ⟨-, rfl⟩ := aq_c ht
    exact aq_n h rfl
  case sipush n =>
    simp only [aTr] at ht
    obtain ⟨-, rfl⟩ := aq_c ht
    exact aq_n h rfl
  case lconst n =>
    simp only [aTr] at ht
    obtain ⟨-, rfl⟩ := aq_c ht
    exact aq_n h rfl
  case jsr_w n =>
    cases ht
  all_goals (cases ht; exact aq_n h rfl)
theorem aRetW {st : List Value} {r : Option Value} {mid : Nat} {Qc : Array Value → State → Outcome → State → Prop} {free : Addr → Prop} (F : aFix p s m args c cc o ad A) (hr : meth.sig.returnType = mR mid) (hlocks : meth.locks = false) (hd : decode cc pc = .ok (ri, len)) (hl : aLen ri = 0 ∨ len = aLen ri) (ht : aTr o ini ri = some op) (h : aRet mid op st = some r)
    (hq : ∀ t : State, t.heap = H → s.WarmedH t.vm → Qc args s (.returned r) t) (hf : ∀ q ∈ locs, free q.base) : W p l e R s m args below meth c H locs cells slots (MQ below Qc args s cells slots free) (F0 m pc rl (st.map (aTv ad))) := by
  obtain ⟨hx, hb, hown, hts, hE⟩ := F
  cases ri
  case ireturn =>
    cases ht
    obtain rfl := aq_l 1 hl rfl (by decide)
    rcases st with _ | ⟨_ | _ | _ | _ | _ | _ | _, st⟩ <;> try exact aq_n h rfl
    rename_i x
    rcases st with _ | ⟨v, st⟩
    · have h : (bif decide (mR mid = some .int) || (decide (mR mid = some .boolean) && (decide (x = 0) || decide (x = 1))) then some (some (Value.int x)) else none) = some r := h
      obtain ⟨h1, rfl⟩ := aq_bif h
      simp only [Bool.or_eq_true, Bool.and_eq_true, decide_eq_true_eq] at h1
      rcases h1 with h1 | ⟨h1, h2⟩
      · exact W.iret hx hb (hr.trans h1) hq hf hd hlocks
      · exact W.zret hx hb (hr.trans h1) (by rcases h2 with rfl | rfl <;> rfl) hq hf hd hlocks
    · exact aq_n h rfl
  case lreturn =>
    cases ht
    obtain rfl := aq_l 1 hl rfl (by decide)
    rcases st with _ | ⟨_ | _ | _ | _ | _ | _ | _, st⟩ <;> try exact aq_n h rfl
    rename_i x
    rcases st with _ | ⟨v, st⟩
    · have h : (bif decide (mR mid = some .long) then some (some (Value.long x)) else none) = some r := h
      obtain ⟨h1, rfl⟩ := aq_bif h
      exact W.lret hx hb (hr.trans (of_decide_eq_true h1)) hq hf hd hlocks
    · exact aq_n h rfl
  case return_ =>
    cases ht
    obtain rfl := aq_l 1 hl rfl (by decide)
    rcases st with _ | ⟨v, st⟩
    · have h : (bif decide (mR mid = none) then some none else none) = some r := h
      obtain ⟨h1, rfl⟩ := aq_bif h
      exact W.vret hx hb (hr.trans (of_decide_eq_true h1)) hq hf hd hlocks
    · exact aq_n h rfl
  case getfield i =>
    simp only [aTr] at ht
    obtain ⟨r, hr, rfl⟩ := aq_m ht
    exact aq_n h rfl
  case getstatic i =>
    simp only [aTr] at ht
    obtain ⟨r, hr, rfl⟩ := aq_m ht
    exact aq_n h rfl
  case invokevirtual i =>
    simp only [aTr] at ht
    obtain ⟨r, hr, rfl⟩ := aq_m ht
    exact aq_n h rfl
  case invokestatic i =>
    simp only [aTr] at ht
    obtain ⟨r, hr, rfl⟩ := aq_m ht
    exact aq_n h rfl
  case invokespecial i =>
    simp only [aTr] at ht
    obtain ⟨r, hr, rfl⟩ := aq_m ht
    exact aq_n h rfl
  case new i =>
    simp only [aTr] at ht
    obtain ⟨r, hr, rfl⟩ := aq_m ht
    exact aq_n h rfl
  case ldc_w i =>
    simp only [aTr] at ht
    obtain ⟨r, hr, rfl⟩ := aq_m ht
    exact aq_n h rfl
  case ldc2_w i =>
    simp only [aTr] at ht
    obtain ⟨r, hr, rfl⟩ := aq_m ht
    exact aq_n h rfl
  case putfield i =>
    simp only [aTr] at ht
    obtain ⟨r, hr, ht⟩ := aq_b ht
    obtain ⟨-, rfl⟩ := aq_c ht
    exact aq_n h rfl
  case ldc i =>
    simp only [aTr] at ht
    split at ht
    · cases ht
      exact aq_n h rfl
    · obtain ⟨r, hr, rfl⟩ := aq_m ht
      exact aq_n h rfl
  case anewarray i =>
    simp only [aTr] at ht
    obtain ⟨r, hr, ht⟩ := aq_b ht
    revert ht
    cases Nat.beq r.2.2.1 3 <;> cases Nat.beq r.2.2.1 1 <;> cases Nat.beq r.2.2.1 7 <;> intro ht <;> cases ht <;> exact aq_n h rfl
  case multianewarray i d =>
    simp only [aTr] at ht
    obtain ⟨-, rfl⟩ := aq_c ht
    exact aq_n h rfl
  case lookupswitch d ps =>
    simp only [aTr] at ht
    obtain ⟨-, rfl⟩ := aq_c ht
    exact aq_n h rfl
  case iinc i n =>
    simp only [aTr] at ht
    obtain ⟨-, rfl⟩ := aq_c ht
    exact aq_n h rfl
  case iconst n =>
    simp only [aTr] at ht
    obtain ⟨-, rfl⟩ := aq_c ht
    exact aq_n h rfl
  case bipush n =>
    simp only [aTr] at ht
    obtain ⟨-, rfl⟩ := aq_c ht
    exact aq_n h rfl
  case sipush n =>
    simp only [aTr] at ht
    obtain ⟨-, rfl⟩ := aq_c ht
    exact aq_n h rfl
  case lconst n =>
    simp only [aTr] at ht
    obtain ⟨-, rfl⟩ := aq_c ht
    exact aq_n h rfl
  case jsr_w n =>
    cases ht
  all_goals (cases ht; exact aq_n h rfl)
end ARUN
