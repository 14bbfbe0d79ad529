/-! one step of the abstract machine is one of the machine's -/
theorem aq_c {b : Bool} {q op : Instr} (h : (bif b then some q else none) = some op) : b = true ∧ op = q := by
  cases b with
  | true => cases h; exact ⟨rfl, rfl⟩
  | false => cases h
theorem aq_m {α : Type} {x : Option α} {f : α → Instr} {op : Instr} (h : x.map f = some op) : ∃ r, x = some r ∧ op = f r := by
  cases x with
  | none => cases h
  | some r => cases h; exact ⟨r, rfl, rfl⟩
theorem aq_b {α : Type} {x : Option α} {f : α → Option Instr} {op : Instr} (h : x.bind f = some op) : ∃ r, x = some r ∧ f r = some op := by
  cases x with
  | none => cases h
  | some r => exact ⟨r, rfl, h⟩
theorem aq_l {a len : Nat} (n : Nat) (hl : a = 0 ∨ len = a) (hn : a = n) (h0 : n ≠ 0) : len = n := by omega
theorem aq_n {α : Type} {x : Option α} {y : α} {P : Prop} (h : x = some y) (hn : x = none) : P := by rw [hn] at h; cases h
theorem aFr_at {o k : Nat} {r : Nat × Nat × Nat × Nat × Nat} (hr : (aFr.find? fun r => Nat.beq r.1 o && Nat.beq r.2.1 k) = some r) : r.2.2.1 < 12 ∧ r.2.2.2.1 < (aCl r.2.2.1).2.2 ∧ r.2.2.2.1 < 100 ∧ ((aCl r.2.2.1).2.1 r.2.2.2.1).1 = (aCl r.2.2.1).1 ∧ Jvm.Cond.fieldLink (aOn o) k (aCl r.2.2.1).1 ((aCl r.2.2.1).2.1 r.2.2.2.1).2.1 ((aCl r.2.2.1).2.1 r.2.2.2.1).2.2.1 ∈ gw := by
  have h1 := List.find?_some hr
  have h2 := List.all_eq_true.mp aFr_ok r (List.mem_of_find?_eq_some hr)
  unfold aFrOk at h2
  simp only [Bool.and_eq_true, Nat.beq_eq, Nat.blt_eq, decide_eq_true_eq] at h1 h2
  obtain ⟨⟨⟨⟨a1, a2⟩, a3⟩, a4⟩, a5⟩ := h2
  have a5 := aTw_in a5
  rw [h1.1, h1.2] at a5
  exact ⟨a1, a2, a3, a4, a5⟩
theorem aGr_at {o k : Nat} {r : Nat × Nat × Nat × Bool × Nat} (hr : (aGr.find? fun r => Nat.beq r.1 o && Nat.beq r.2.1 k) = some r) : r.2.2.1 < 2 ∧ Jvm.Cond.fieldLinkNest (aOn o) k "EdgeChain" (aSt r.2.2.1) "[I" "EdgeChain" ∈ aNst := by
  have h1 := List.find?_some hr
  have h2 := List.all_eq_true.mp aGr_ok r (List.mem_of_find?_eq_some hr)
  simp only [Bool.and_eq_true, Nat.beq_eq, Nat.blt_eq, decide_eq_true_eq] at h1 h2
  rw [h1.1, h1.2] at h2
  exact h2
theorem aKr_at {o k : Nat} {r : Nat × Nat × Int × Nat} (hr : (aKr.find? fun r => Nat.beq r.1 o && Nat.beq r.2.1 k) = some r) : Jvm.Cond.constant (aOn o) k (aK r.2.2.1) ∈ gw := by
  have h1 := List.find?_some hr
  have h2 := aTw_in (List.all_eq_true.mp aKr_ok r (List.mem_of_find?_eq_some hr))
  simp only [Bool.and_eq_true, Nat.beq_eq] at h1
  rwa [h1.1, h1.2] at h2
theorem aLr_at {o k : Nat} {r : Nat × Nat × Int × Nat} (hr : (aLr.find? fun r => Nat.beq r.1 o && Nat.beq r.2.1 k) = some r) : Jvm.Cond.constantLong (aOn o) k (aKL r.2.2.1) ∈ gw := by
  have h1 := List.find?_some hr
  have h2 := aTw_in (List.all_eq_true.mp aLr_ok r (List.mem_of_find?_eq_some hr))
  simp only [Bool.and_eq_true, Nat.beq_eq] at h1
  rwa [h1.1, h1.2] at h2
theorem aSr_ok : aSr.all (fun r => Nat.blt r.2.2.1 5 && decide (aOn r.1 = RX7) && Nat.beq r.2.1 (aSk.getD r.2.2.1 0)) = true := by decide +kernel
theorem aSr_at {o k : Nat} {r : Nat × Nat × Nat × Nat} (hr : (aSr.find? fun r => Nat.beq r.1 o && Nat.beq r.2.1 k) = some r) : r.2.2.1 < 5 ∧ aOn o = RX7 ∧ k = aSk.getD r.2.2.1 0 := by
  have h1 := List.find?_some hr
  have h2 := List.all_eq_true.mp aSr_ok r (List.mem_of_find?_eq_some hr)
  simp only [Bool.and_eq_true, Nat.beq_eq, Nat.blt_eq, decide_eq_true_eq] at h1 h2
  rw [h1.1, h1.2] at h2
  exact ⟨h2.1.1, h2.1.2, h2.2⟩
section ASIM
variable {p : Program} {l : Launch} {e : Env} {R : Room} {s : State} {m : MethodId} {args : Array Value} {below : List Frame} {meth : Method} {c : Code} {H : Heap} {locs : List Loc} {cells slots : Nat} {Q : State → Prop}
variable {cc : ByteArray} {pc len o : Nat} {ini : Bool} {ls : Array Slot} {ad : Nat → Nat} {A : Nat → Prop} {ri op : Instr}
/-- what a frame stands on: the machine, its code, its class, the words, what stands outside -/
def aFix (p : Program) (s : State) (m : MethodId) (args : Array Value) (c : Code) (cc : ByteArray) (o : Nat) (ad : Nat → Nat) (A : Nat → Prop) : Prop :=
  p.tables.exec = Jvm.exec ∧ c.code = cc ∧ s.vm.findClass (aOn o) = some m.cls ∧ (∀ w ∈ gw, w.before args s = true) ∧ aExt ad A s s.heap
set_option maxHeartbeats 4000000 in
theorem aPureW {st st' : List Value} (F : aFix p s m args c cc o ad A) (hS : va_S A s.heap H locs) (hd : decode cc pc = .ok (ri, len)) (hl : aLen ri = 0 ∨ len = aLen ri) (ht : aTr o ini ri = some op) (h : aPure op st = some st')
    (k : W p l e R s m args below meth c H locs cells slots Q (F0 m (pc + len) ls (st'.map (aTv ad)))) : W p l e R s m args below meth c H locs cells slots Q (F0 m pc ls (st.map (aTv ad))) := by
  obtain ⟨hx, hb, hown, hts, hE⟩ := F
  cases ri
  case iconst n =>
    simp only [aTr] at ht
    obtain ⟨hq, rfl⟩ := aq_c ht
    obtain rfl := aq_l 1 hl rfl (by decide)
    cases h
    exact lv_iconst hx hb hd (of_decide_eq_true hq) k
  case bipush n =>
    simp only [aTr] at ht
    obtain ⟨hq, rfl⟩ := aq_c ht
    obtain rfl := aq_l 2 hl rfl (by decide)
    cases h
    exact lv_bipush hx hb hd (of_decide_eq_true hq) k
  case sipush n =>
    simp only [aTr] at ht
    obtain ⟨hq, rfl⟩ := aq_c ht
    obtain rfl := aq_l 3 hl rfl (by decide)
    cases h
    exact lv_sipush hx hb hd (of_decide_eq_true hq) k
  case lconst n =>
    simp only [aTr] at ht
    obtain ⟨hq, rfl⟩ := aq_c ht
    obtain rfl := aq_l 1 hl rfl (by decide)
    cases h
    exact lv_lconst hx hb hd (of_decide_eq_true hq) k
  case ldc_w i =>
    simp only [aTr] at ht
    obtain ⟨r, hr, rfl⟩ := aq_m ht
    obtain rfl := aq_l 3 hl rfl (by decide)
    cases h
    exact lv_ldcw hx hb hown (hts _ (aKr_at hr)) hd k
  case ldc2_w i =>
    simp only [aTr] at ht
    obtain ⟨r, hr, rfl⟩ := aq_m ht
    obtain rfl := aq_l 3 hl rfl (by decide)
    cases h
    exact lv_ldc2 hx hb hown (hts _ (aLr_at hr)) hd k
  case ldc i =>
    obtain rfl := aq_l 2 hl rfl (by decide)
    simp only [aTr] at ht
    split at ht
    · rename_i r hr
      cases ht
      cases h
      exact lv_ldc hx hb hown (hts _ (aKr_at hr)) hd k
    · obtain ⟨r, hr, rfl⟩ := aq_m ht
      cases h
      obtain ⟨h1, h2, h3⟩ := aSr_at hr
      rw [h2] at hown
      rw [h3] at hd
      exact va_ldcS hx hb hown (hE.2.2.2.1 r.2.2.1 h1) hd k
  case getstatic i =>
    simp only [aTr] at ht
    obtain ⟨r, hr, rfl⟩ := aq_m ht
    obtain rfl := aq_l 3 hl rfl (by decide)
    cases h
    obtain ⟨h1, h2⟩ := aGr_at hr
    exact va_getsN hx hb (hE.2.2.1 r.2.2.1 h1).1 hS hown ((hE.1 _ h2).use rfl) (fun _ q => q) hd k
  case iadd =>
    cases ht
    obtain rfl := aq_l 1 hl rfl (by decide)
    rcases st with _ | ⟨_ | _ | _ | _ | _ | _ | _, st⟩ <;> try exact aq_n h rfl
    rcases st with _ | ⟨_ | _ | _ | _ | _ | _ | _, st⟩ <;> try exact aq_n h rfl
    cases h
    exact lv_iadd hx hb hd k
  case isub =>
    cases ht
    obtain rfl := aq_l 1 hl rfl (by decide)
    rcases st with _ | ⟨_ | _ | _ | _ | _ | _ | _, st⟩ <;> try exact aq_n h rfl
    rcases st with _ | ⟨_ | _ | _ | _ | _ | _ | _, st⟩ <;> try exact aq_n h rfl
    cases h
    exact lv_isub hx hb hd k
  case imul =>
    cases ht
    obtain rfl := aq_l 1 hl rfl (by decide)
    rcases st with _ | ⟨_ | _ | _ | _ | _ | _ | _, st⟩ <;> try exact aq_n h rfl
    rcases st with _ | ⟨_ | _ | _ | _ | _ | _ | _, st⟩ <;> try exact aq_n h rfl
    cases h
    exact lv_imul hx hb hd k
  case iand =>
    cases ht
    obtain rfl := aq_l 1 hl rfl (by decide)
    rcases st with _ | ⟨_ | _ | _ | _ | _ | _ | _, st⟩ <;> try exact aq_n h rfl
    rcases st with _ | ⟨_ | _ | _ | _ | _ | _ | _, st⟩ <;> try exact aq_n h rfl
    cases h
    exact lv_iand hx hb hd k
  case ior =>
    cases ht
    obtain rfl := aq_l 1 hl rfl (by decide)
    rcases st with _ | ⟨_ | _ | _ | _ | _ | _ | _, st⟩ <;> try exact aq_n h rfl
    rcases st with _ | ⟨_ | _ | _ | _ | _ | _ | _, st⟩ <;> try exact aq_n h rfl
    cases h
    exact lv_ior hx hb hd k
  case ixor =>
    cases ht
    obtain rfl := aq_l 1 hl rfl (by decide)
    rcases st with _ | ⟨_ | _ | _ | _ | _ | _ | _, st⟩ <;> try exact aq_n h rfl
    rcases st with _ | ⟨_ | _ | _ | _ | _ | _ | _, st⟩ <;> try exact aq_n h rfl
    cases h
    exact lv_ixor hx hb hd k
  case ishl =>
    cases ht
    obtain rfl := aq_l 1 hl rfl (by decide)
    rcases st with _ | ⟨_ | _ | _ | _ | _ | _ | _, st⟩ <;> try exact aq_n h rfl
    rcases st with _ | ⟨_ | _ | _ | _ | _ | _ | _, st⟩ <;> try exact aq_n h rfl
    cases h
    exact lv_ishl hx hb hd k
  case ishr =>
    cases ht
    obtain rfl := aq_l 1 hl rfl (by decide)
    rcases st with _ | ⟨_ | _ | _ | _ | _ | _ | _, st⟩ <;> try exact aq_n h rfl
    rcases st with _ | ⟨_ | _ | _ | _ | _ | _ | _, st⟩ <;> try exact aq_n h rfl
    cases h
    exact lv_ishr hx hb hd k
  case ladd =>
    cases ht
    obtain rfl := aq_l 1 hl rfl (by decide)
    rcases st with _ | ⟨_ | _ | _ | _ | _ | _ | _, st⟩ <;> try exact aq_n h rfl
    rcases st with _ | ⟨_ | _ | _ | _ | _ | _ | _, st⟩ <;> try exact aq_n h rfl
    cases h
    exact lv_ladd hx hb hd k
  case lsub =>
    cases ht
    obtain rfl := aq_l 1 hl rfl (by decide)
    rcases st with _ | ⟨_ | _ | _ | _ | _ | _ | _, st⟩ <;> try exact aq_n h rfl
    rcases st with _ | ⟨_ | _ | _ | _ | _ | _ | _, st⟩ <;> try exact aq_n h rfl
    cases h
    exact lv_lsub hx hb hd k
  case land =>
    cases ht
    obtain rfl := aq_l 1 hl rfl (by decide)
    rcases st with _ | ⟨_ | _ | _ | _ | _ | _ | _, st⟩ <;> try exact aq_n h rfl
    rcases st with _ | ⟨_ | _ | _ | _ | _ | _ | _, st⟩ <;> try exact aq_n h rfl
    cases h
    exact lv_land hx hb hd k
  case lor =>
    cases ht
    obtain rfl := aq_l 1 hl rfl (by decide)
    rcases st with _ | ⟨_ | _ | _ | _ | _ | _ | _, st⟩ <;> try exact aq_n h rfl
    rcases st with _ | ⟨_ | _ | _ | _ | _ | _ | _, st⟩ <;> try exact aq_n h rfl
    cases h
    exact lv_lor hx hb hd k
  case iushr =>
    cases ht
    obtain rfl := aq_l 1 hl rfl (by decide)
    rcases st with _ | ⟨_ | _ | _ | _ | _ | _ | _, st⟩ <;> try exact aq_n h rfl
    rcases st with _ | ⟨_ | _ | _ | _ | _ | _ | _, st⟩ <;> try exact aq_n h rfl
    cases h
    exact lv_iushr hx hb hd rfl k
  case lshl =>
    cases ht
    obtain rfl := aq_l 1 hl rfl (by decide)
    rcases st with _ | ⟨_ | _ | _ | _ | _ | _ | _, st⟩ <;> try exact aq_n h rfl
    rcases st with _ | ⟨_ | _ | _ | _ | _ | _ | _, st⟩ <;> try exact aq_n h rfl
    cases h
    exact lv_lshl hx hb hd rfl k
  case lshr =>
    cases ht
    obtain rfl := aq_l 1 hl rfl (by decide)
    rcases st with _ | ⟨_ | _ | _ | _ | _ | _ | _, st⟩ <;> try exact aq_n h rfl
    rcases st with _ | ⟨_ | _ | _ | _ | _ | _ | _, st⟩ <;> try exact aq_n h rfl
    cases h
    exact lv_lshr hx hb hd rfl k
  case lushr =>
    cases ht
    obtain rfl := aq_l 1 hl rfl (by decide)
    rcases st with _ | ⟨_ | _ | _ | _ | _ | _ | _, st⟩ <;> try exact aq_n h rfl
    rcases st with _ | ⟨_ | _ | _ | _ | _ | _ | _, st⟩ <;> try exact aq_n h rfl
    cases h
    exact lv_lushr hx hb hd rfl k
  case i2l =>
    cases ht
    obtain rfl := aq_l 1 hl rfl (by decide)
    rcases st with _ | ⟨_ | _ | _ | _ | _ | _ | _, st⟩ <;> try exact aq_n h rfl
    cases h
    exact lv_i2l hx hb hd rfl k
  case l2i =>
    cases ht
    obtain rfl := aq_l 1 hl rfl (by decide)
    rcases st with _ | ⟨_ | _ | _ | _ | _ | _ | _, st⟩ <;> try exact aq_n h rfl
    cases h
    exact lv_l2i hx hb hd rfl k
  case i2b =>
    cases ht
    obtain rfl := aq_l 1 hl rfl (by decide)
    rcases st with _ | ⟨_ | _ | _ | _ | _ | _ | _, st⟩ <;> try exact aq_n h rfl
    cases h
    exact lv_i2b hx hb hd rfl k
  case i2s =>
    cases ht
    obtain rfl := aq_l 1 hl rfl (by decide)
    rcases st with _ | ⟨_ | _ | _ | _ | _ | _ | _, st⟩ <;> try exact aq_n h rfl
    cases h
    exact lv_i2s hx hb hd rfl k
  case idiv =>
    cases ht
    obtain rfl := aq_l 1 hl rfl (by decide)
    rcases st with _ | ⟨_ | _ | _ | _ | _ | _ | _, st⟩ <;> try exact aq_n h rfl
    rcases st with _ | ⟨_ | _ | _ | _ | _ | _ | _, st⟩ <;> try exact aq_n h rfl
    rename_i y x
    by_cases hne : y = 0
    · exact aq_n h (if_pos hne)
    · have h := (if_neg hne).symm.trans h
      cases h
      exact lv_idiv hx hb hd hne k
  case irem =>
    cases ht
    obtain rfl := aq_l 1 hl rfl (by decide)
    rcases st with _ | ⟨_ | _ | _ | _ | _ | _ | _, st⟩ <;> try exact aq_n h rfl
    rcases st with _ | ⟨_ | _ | _ | _ | _ | _ | _, st⟩ <;> try exact aq_n h rfl
    rename_i y x
    by_cases hne : y = 0
    · exact aq_n h (if_pos hne)
    · have h := (if_neg hne).symm.trans h
      cases h
      exact lv_irem hx hb hd hne k
  case lcmp =>
    cases ht
    obtain rfl := aq_l 1 hl rfl (by decide)
    rcases st with _ | ⟨_ | _ | _ | _ | _ | _ | _, st⟩ <;> try exact aq_n h rfl
    rcases st with _ | ⟨_ | _ | _ | _ | _ | _ | _, st⟩ <;> try exact aq_n h rfl
    cases h
    exact W.lcmp hx hb hd k
  case dup =>
    cases ht
    obtain rfl := aq_l 1 hl rfl (by decide)
    rcases st with _ | ⟨_ | _ | _ | _ | _ | _ | _, st⟩ <;> try exact aq_n h rfl
    all_goals (cases h; exact lv_dup hx hb hd rfl k)
  case dup2 =>
    cases ht
    obtain rfl := aq_l 1 hl rfl (by decide)
    rcases st with _ | ⟨_ | _ | _ | _ | _ | _ | _, st⟩ <;> try exact aq_n h rfl
    rcases st with _ | ⟨_ | _ | _ | _ | _ | _ | _, st⟩ <;> try exact aq_n h rfl
    cases h
    exact lv_dup2_11 hx hb hd rfl rfl k
  case pop =>
    cases ht
    obtain rfl := aq_l 1 hl rfl (by decide)
    rcases st with _ | ⟨_ | _ | _ | _ | _ | _ | _, st⟩ <;> try exact aq_n h rfl
    cases h
    exact lv_pop hx hb hd rfl k
  case getfield i =>
    simp only [aTr] at ht
    obtain ⟨r, hr, rfl⟩ := aq_m ht
    exact aq_n h rfl
  case invokevirtual i =>
    simp only [aTr] at ht
    obtain ⟨r, hr, rfl⟩ := aq_m ht
    exact aq_n h rfl
  case invokestatic i =>
    simp only [aTr] at ht
    obtain ⟨r, hr, rfl⟩ := aq_m ht
    exact aq_n h rfl
  case invokespecial i =>
    simp only [aTr] at ht
    obtain ⟨r, hr, rfl⟩ := aq_m ht
    exact aq_n h rfl
  case new i =>
    simp only [aTr] at ht
    obtain ⟨r, hr, rfl⟩ := aq_m ht
    exact aq_n h rfl
  case putfield i =>
    simp only [aTr] at ht
    obtain ⟨r, hr, ht⟩ := aq_b ht
    obtain ⟨-, rfl⟩ := aq_c ht
    exact aq_n h rfl
  case anewarray i =>
    simp only [aTr] at ht
    obtain ⟨r, hr, ht⟩ := aq_b ht
    revert ht
    cases Nat.beq r.2.2.1 3 <;> cases Nat.beq r.2.2.1 1 <;> cases Nat.beq r.2.2.1 7 <;> intro ht <;> cases ht <;> exact aq_n h rfl
  case multianewarray i d =>
    simp only [aTr] at ht
    obtain ⟨-, rfl⟩ := aq_c ht
    exact aq_n h rfl
  case iinc i n =>
    simp only [aTr] at ht
    obtain ⟨-, rfl⟩ := aq_c ht
    exact aq_n h rfl
  case lookupswitch d ps =>
    simp only [aTr] at ht
    obtain ⟨-, rfl⟩ := aq_c ht
    exact aq_n h rfl
  case jsr_w n =>
    cases ht
  all_goals (cases ht; exact aq_n h rfl)
end ASIM
