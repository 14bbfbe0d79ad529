/-! locals and jumps -/
theorem aTv_cat {ad : Nat → Nat} {v : Value} : (aTv ad v).category = v.category := by cases v <;> rfl
def aLh (ad : Nat → Nat) (rl : Array Slot) (ls : aL) : Prop := ∃ lv, lv_has rl ls.length lv ∧ ∀ i v, ls[i]? = some (some v) → (i, aTv ad v) ∈ lv
theorem aLh_at {ad : Nat → Nat} {rl : Array Slot} {ls : aL} {i : Nat} {v : Value} (h : aLh ad rl ls) (hi : ls[i]? = some (some v)) : rl[i]? = some (.val (aTv ad v)) := by
  obtain ⟨lv, h1, h2⟩ := h
  exact h1.2.2 _ (h2 i v hi)
theorem aLd_at {ls : aL} {i : Nat} {v : Value} (h : aLd ls i = some v) : ls[i]? = some (some v) := by
  unfold aLd at h
  split at h
  · rename_i w hw
    cases h
    exact hw
  · cases h
theorem aClr_s {ls : aL} {j : Nat} : aClr ls (j + 1) = match ls[j]? with
    | some (some v) => bif Nat.beq v.category 2 then ls.set j none else ls
    | _ => ls := rfl
theorem aClr_len {ls : aL} {i : Nat} : (aClr ls i).length = ls.length := by
  cases i with
  | zero => rfl
  | succ j =>
    rw [aClr_s]
    split
    · rename_i v hv
      cases Nat.beq v.category 2
      · rfl
      · exact List.length_set
    · rfl
theorem aClr_at {ls : aL} {i j : Nat} {w : Value} (h : (aClr ls i)[j]? = some (some w)) : ls[j]? = some (some w) ∧ ¬ (j + 1 = i ∧ w.category = 2) := by
  cases i with
  | zero => exact ⟨h, fun q => by omega⟩
  | succ k =>
    rw [aClr_s] at h
    split at h
    · rename_i v hv
      by_cases hc : v.category = 2
      · have hb : Nat.beq v.category 2 = true := by rw [hc]; rfl
        rw [hb] at h
        by_cases hj : j = k
        · subst hj
          have hl : j < ls.length := (List.getElem?_eq_some_iff.mp hv).1
          have h : (ls.set j none)[j]? = some (some w) := h
          rw [List.getElem?_set_self hl] at h
          cases h
        · have h : (ls.set k none)[j]? = some (some w) := h
          rw [List.getElem?_set_ne (Ne.symm hj)] at h
          exact ⟨h, fun q => hj (by omega)⟩
      · have hb : Nat.beq v.category 2 = false := by
          cases hq : Nat.beq v.category 2
          · rfl
          · exact absurd (Nat.eq_of_beq_eq_true hq) hc
        rw [hb] at h
        have h2 : ls[j]? = some (some w) := h
        refine ⟨h2, fun q => ?_⟩
        obtain ⟨q1, q2⟩ := q
        have : j = k := by omega
        subst this
        rw [hv] at h2
        cases h2
        exact hc q2
    · rename_i hno
      refine ⟨h, fun q => ?_⟩
      obtain ⟨q1, q2⟩ := q
      have : j = k := by omega
      subst this
      exact hno w h
theorem aLh_st1 {ad : Nat → Nat} {rl' : Array Slot} {ls : aL} {lv : List (Nat × Value)} {i : Nat} {v : Value} (h2 : ∀ i v, ls[i]? = some (some v) → (i, aTv ad v) ∈ lv) (hi : i < ls.length) (h' : lv_has rl' ls.length ((i, aTv ad v) :: lv.filter (fun q => !(q.1 == i) && !(q.1 + 1 == i && q.2.category == 2)))) : aLh ad rl' ((aClr ls i).set i (some v)) := by
  refine ⟨_, by rw [List.length_set, aClr_len]; exact h', fun j w hj => ?_⟩
  by_cases hji : j = i
  · subst hji
    rw [List.getElem?_set_self (by rw [aClr_len]; exact hi)] at hj
    cases hj
    exact List.mem_cons_self
  · rw [List.getElem?_set_ne (Ne.symm hji)] at hj
    obtain ⟨a1, a2⟩ := aClr_at hj
    refine List.mem_cons_of_mem _ (List.mem_filter.mpr ⟨h2 j w a1, ?_⟩)
    simp only [Bool.and_eq_true, Bool.not_eq_true', beq_eq_false_iff_ne, ne_eq, Bool.and_eq_false_iff]
    refine ⟨hji, ?_⟩
    rw [aTv_cat]
    by_cases q : j + 1 = i
    · exact Or.inr (fun z => a2 ⟨q, z⟩)
    · exact Or.inl q
theorem aLh_st2 {ad : Nat → Nat} {rl' : Array Slot} {ls : aL} {lv : List (Nat × Value)} {i : Nat} {v : Value} (h2 : ∀ i v, ls[i]? = some (some v) → (i, aTv ad v) ∈ lv) (hi : i + 1 < ls.length) (h' : lv_has rl' ls.length ((i, aTv ad v) :: lv.filter (fun q => !(q.1 == i) && (!(q.1 == i + 1) && !(q.1 + 1 == i && q.2.category == 2))))) : aLh ad rl' (((aClr ls i).set i (some v)).set (i + 1) none) := by
  refine ⟨_, by rw [List.length_set, List.length_set, aClr_len]; exact h', fun j w hj => ?_⟩
  by_cases hj1 : j = i + 1
  · subst hj1
    rw [List.getElem?_set_self (by rw [List.length_set, aClr_len]; exact hi)] at hj
    cases hj
  · rw [List.getElem?_set_ne (Ne.symm hj1)] at hj
    by_cases hji : j = i
    · subst hji
      rw [List.getElem?_set_self (by rw [aClr_len]; omega)] at hj
      cases hj
      exact List.mem_cons_self
    · rw [List.getElem?_set_ne (Ne.symm hji)] at hj
      obtain ⟨a1, a2⟩ := aClr_at hj
      refine List.mem_cons_of_mem _ (List.mem_filter.mpr ⟨h2 j w a1, ?_⟩)
      simp only [Bool.and_eq_true, Bool.not_eq_true', beq_eq_false_iff_ne, ne_eq, Bool.and_eq_false_iff]
      refine ⟨hji, hj1, ?_⟩
      rw [aTv_cat]
      by_cases q : j + 1 = i
      · exact Or.inr (fun z => a2 ⟨q, z⟩)
      · exact Or.inl q
theorem aLk_mem {ps : List (Int × Int)} {d x : Int} : Op.lookupswitch.offset ps d x ∈ d :: ps.map (·.2) := by
  induction ps with
  | nil => exact List.mem_cons_self
  | cons a r ih =>
    obtain ⟨a, b⟩ := a
    rw [Op.lookupswitch.offset_cons]
    split
    · simp
    · rcases List.mem_cons.mp ih with h | h
      · rw [h]; exact List.mem_cons_self
      · exact List.mem_cons_of_mem _ (List.mem_cons_of_mem _ h)
section ALOC
variable {p : Program} {l : Launch} {e : Env} {R : Room} {s : State} {m : MethodId} {args : Array Value} {below : List Frame} {meth : Method} {c : Code} {H : Heap} {locs : List Loc} {cells slots : Nat} {Q : State → Prop}
variable {cc : ByteArray} {pc len o : Nat} {ini : Bool} {rl : Array Slot} {ad : Nat → Nat} {A : Nat → Prop} {ri op : Instr} {ls : aL}
set_option maxHeartbeats 4000000 in
theorem aLocW {st : List Value} {q : aL × List Value} (F : aFix p s m args c cc o ad A) (hL : aLh ad rl ls) (hd : decode cc pc = .ok (ri, len)) (hl : aLen ri = 0 ∨ len = aLen ri) (ht : aTr o ini ri = some op) (h : aLoc op ls st = some q)
    (k : ∀ rl', aLh ad rl' q.1 → W p l e R s m args below meth c H locs cells slots Q (F0 m (pc + len) rl' (q.2.map (aTv ad)))) : W p l e R s m args below meth c H locs cells slots Q (F0 m pc rl (st.map (aTv ad))) := by
  obtain ⟨hx, hb, hown, hts, hE⟩ := F
  cases ri
  case iload_n n =>
    cases ht
    obtain rfl := aq_l 1 hl rfl (by decide)
    have h : (match aLd ls n.val with | some (.int x) => some (ls, .int x :: st) | _ => none) = some q := h
    split at h
    · rename_i x hx2
      cases h
      exact lv_iload_n hx hb hd rfl (aLh_at hL (aLd_at hx2)) (k rl hL)
    · cases h
  case iload n =>
    cases ht
    obtain rfl := aq_l 2 hl rfl (by decide)
    have h : (match aLd ls n with | some (.int x) => some (ls, .int x :: st) | _ => none) = some q := h
    split at h
    · rename_i x hx2
      cases h
      exact lv_iload hx hb hd (aLh_at hL (aLd_at hx2)) (k rl hL)
    · cases h
  case lload_n n =>
    cases ht
    obtain rfl := aq_l 1 hl rfl (by decide)
    have h : (match aLd ls n.val with | some (.long x) => some (ls, .long x :: st) | _ => none) = some q := h
    split at h
    · rename_i x hx2
      cases h
      exact lv_lload_n hx hb hd rfl (aLh_at hL (aLd_at hx2)) (k rl hL)
    · cases h
  case lload n =>
    cases ht
    obtain rfl := aq_l 2 hl rfl (by decide)
    have h : (match aLd ls n with | some (.long x) => some (ls, .long x :: st) | _ => none) = some q := h
    split at h
    · rename_i x hx2
      cases h
      exact lv_lload hx hb hd (aLh_at hL (aLd_at hx2)) (k rl hL)
    · cases h
  case aload_n n =>
    cases ht
    obtain rfl := aq_l 1 hl rfl (by decide)
    have h : (match aLd ls n.val with | some (.ref x) => some (ls, .ref x :: st) | _ => none) = some q := h
    split at h
    · rename_i x hx2
      cases h
      exact lv_aload_n hx hb hd rfl (aLh_at hL (aLd_at hx2)) (k rl hL)
    · cases h
  case aload n =>
    cases ht
    obtain rfl := aq_l 2 hl rfl (by decide)
    have h : (match aLd ls n with | some (.ref x) => some (ls, .ref x :: st) | _ => none) = some q := h
    split at h
    · rename_i x hx2
      cases h
      exact lv_aload hx hb hd (aLh_at hL (aLd_at hx2)) (k rl hL)
    · cases h
  case istore_n n =>
    cases ht
    obtain rfl := aq_l 1 hl rfl (by decide)
    rcases st with _ | ⟨_ | _ | _ | _ | _ | _ | _, st⟩ <;> try exact aq_n h rfl
    rename_i x
    have h : (bif Nat.blt n.val ls.length then some ((aClr ls n.val).set n.val (some (.int x)), st) else none) = some q := h
    cases hb2 : Nat.blt n.val ls.length <;> rw [hb2] at h <;> cases h
    rw [Nat.blt_eq] at hb2
    obtain ⟨lv, h1, h2⟩ := hL
    exact lv_istore_n hx hb hd rfl h1 hb2 rfl (fun rl2 h3 => k rl2 (aLh_st1 (v := .int x) h2 hb2 h3))
  case istore n =>
    cases ht
    obtain rfl := aq_l 2 hl rfl (by decide)
    rcases st with _ | ⟨_ | _ | _ | _ | _ | _ | _, st⟩ <;> try exact aq_n h rfl
    rename_i x
    have h : (bif Nat.blt n ls.length then some ((aClr ls n).set n (some (.int x)), st) else none) = some q := h
    cases hb2 : Nat.blt n ls.length <;> rw [hb2] at h <;> cases h
    rw [Nat.blt_eq] at hb2
    obtain ⟨lv, h1, h2⟩ := hL
    exact lv_istore hx hb hd h1 hb2 rfl (fun rl2 h3 => k rl2 (aLh_st1 (v := .int x) h2 hb2 h3))
  case astore_n n =>
    cases ht
    obtain rfl := aq_l 1 hl rfl (by decide)
    rcases st with _ | ⟨_ | _ | _ | _ | _ | _ | _, st⟩ <;> try exact aq_n h rfl
    rename_i x
    have h : (bif Nat.blt n.val ls.length then some ((aClr ls n.val).set n.val (some (.ref x)), st) else none) = some q := h
    cases hb2 : Nat.blt n.val ls.length <;> rw [hb2] at h <;> cases h
    rw [Nat.blt_eq] at hb2
    obtain ⟨lv, h1, h2⟩ := hL
    exact lv_astore_n hx hb hd rfl h1 hb2 rfl (fun rl2 h3 => k rl2 (aLh_st1 (v := .ref x) h2 hb2 h3))
  case astore n =>
    cases ht
    obtain rfl := aq_l 2 hl rfl (by decide)
    rcases st with _ | ⟨_ | _ | _ | _ | _ | _ | _, st⟩ <;> try exact aq_n h rfl
    rename_i x
    have h : (bif Nat.blt n ls.length then some ((aClr ls n).set n (some (.ref x)), st) else none) = some q := h
    cases hb2 : Nat.blt n ls.length <;> rw [hb2] at h <;> cases h
    rw [Nat.blt_eq] at hb2
    obtain ⟨lv, h1, h2⟩ := hL
    exact lv_astore hx hb hd h1 hb2 rfl (fun rl2 h3 => k rl2 (aLh_st1 (v := .ref x) h2 hb2 h3))
  case lstore_n n =>
    cases ht
    obtain rfl := aq_l 1 hl rfl (by decide)
    rcases st with _ | ⟨_ | _ | _ | _ | _ | _ | _, st⟩ <;> try exact aq_n h rfl
    rename_i x
    have h : (bif Nat.blt (n.val + 1) ls.length then some (((aClr ls n.val).set n.val (some (.long x))).set (n.val + 1) none, st) else none) = some q := h
    cases hb2 : Nat.blt (n.val + 1) ls.length <;> rw [hb2] at h <;> cases h
    rw [Nat.blt_eq] at hb2
    obtain ⟨lv, h1, h2⟩ := hL
    exact lv_lstore_n hx hb hd rfl h1 hb2 rfl (fun rl2 h3 => k rl2 (aLh_st2 (v := .long x) h2 hb2 h3))
  case lstore n =>
    cases ht
    obtain rfl := aq_l 2 hl rfl (by decide)
    rcases st with _ | ⟨_ | _ | _ | _ | _ | _ | _, st⟩ <;> try exact aq_n h rfl
    rename_i x
    have h : (bif Nat.blt (n + 1) ls.length then some (((aClr ls n).set n (some (.long x))).set (n + 1) none, st) else none) = some q := h
    cases hb2 : Nat.blt (n + 1) ls.length <;> rw [hb2] at h <;> cases h
    rw [Nat.blt_eq] at hb2
    obtain ⟨lv, h1, h2⟩ := hL
    exact lv_lstore hx hb hd h1 hb2 rfl (fun rl2 h3 => k rl2 (aLh_st2 (v := .long x) h2 hb2 h3))
  case iinc i n =>
    simp only [aTr] at ht
    obtain ⟨hq, rfl⟩ := aq_c ht
    obtain rfl := aq_l 3 hl rfl (by decide)
    have h : (match aLd ls i with | some (.int x) => some ((aClr ls i).set i (some (.int (x + aK n))), st) | _ => none) = some q := h
    split at h
    · rename_i x hx2
      cases h
      have hx3 := aLd_at hx2
      have hi : i < ls.length := (List.getElem?_eq_some_iff.mp hx3).1
      obtain ⟨lv, h1, h2⟩ := hL
      obtain ⟨j, hj⟩ := List.getElem?_of_mem (h2 i _ hx3)
      exact lv_iinc (k := j) hx hb hd h1 hj (by rw [of_decide_eq_true hq]) hi rfl (fun rl2 h3 => k rl2 (aLh_st1 (v := .int (x + aK n)) h2 hi h3))
    · cases h
  case getfield i =>
    simp only [aTr] at ht
    obtain ⟨r, hr, rfl⟩ := aq_m ht
    exact aq_n h rfl
  case getstatic i =>
    simp only [aTr] at ht
    obtain ⟨r, hr, rfl⟩ := aq_m ht
    exact aq_n h rfl
  case invokevirtual i =>
    simp only [aTr] at ht
    obtain ⟨r, hr, rfl⟩ := aq_m ht
    exact aq_n h rfl
  case invokestatic i =>
    simp only [aTr] at ht
    obtain ⟨r, hr, rfl⟩ := aq_m ht
    exact aq_n h rfl
  case invokespecial i =>
    simp only [aTr] at ht
    obtain ⟨r, hr, rfl⟩ := aq_m ht
    exact aq_n h rfl
  case new i =>
    simp only [aTr] at ht
    obtain ⟨r, hr, rfl⟩ := aq_m ht
    exact aq_n h rfl
  case ldc_w i =>
    simp only [aTr] at ht
    obtain ⟨r, hr, rfl⟩ := aq_m ht
    exact aq_n h rfl
  case ldc2_w i =>
    simp only [aTr] at ht
    obtain ⟨r, hr, rfl⟩ := aq_m ht
    exact aq_n h rfl
  case putfield i =>
    simp only [aTr] at ht
    obtain ⟨r, hr, ht⟩ := aq_b ht
    obtain ⟨-, rfl⟩ := aq_c ht
    exact aq_n h rfl
  case ldc i =>
    simp only [aTr] at ht
    split at ht
    · cases ht
      exact aq_n h rfl
    · obtain ⟨r, hr, rfl⟩ := aq_m ht
      exact aq_n h rfl
  case anewarray i =>
    simp only [aTr] at ht
    obtain ⟨r, hr, ht⟩ := aq_b ht
    revert ht
    cases Nat.beq r.2.2.1 3 <;> cases Nat.beq r.2.2.1 1 <;> cases Nat.beq r.2.2.1 7 <;> intro ht <;> cases ht <;> exact aq_n h rfl
  case multianewarray i d =>
    simp only [aTr] at ht
    obtain ⟨-, rfl⟩ := aq_c ht
    exact aq_n h rfl
  case lookupswitch d ps =>
    simp only [aTr] at ht
    obtain ⟨-, rfl⟩ := aq_c ht
    exact aq_n h rfl
  case iconst n =>
    simp only [aTr] at ht
    obtain ⟨-, rfl⟩ := aq_c ht
    exact aq_n h rfl
  case bipush n =>
    simp only [aTr] at ht
    obtain ⟨-, rfl⟩ := aq_c ht
    exact aq_n h rfl
  case sipush n =>
    simp only [aTr] at ht
    obtain ⟨-, rfl⟩ := aq_c ht
    exact aq_n h rfl
  case lconst n =>
    simp only [aTr] at ht
    obtain ⟨-, rfl⟩ := aq_c ht
    exact aq_n h rfl
  case jsr_w n =>
    cases ht
  all_goals (cases ht; exact aq_n h rfl)
theorem aJ_at {pc : Nat} {off : Int} (h : 0 ≤ (pc : Int) + off) : (pc : Int) + off = ((aJ pc off : Nat) : Int) := (Int.toNat_of_nonneg h).symm
set_option maxHeartbeats 4000000 in
theorem aBrW {st : List Value} {q : Nat × List Value} (F : aFix p s m args c cc o ad A) (hd : decode cc pc = .ok (ri, len)) (hl : aLen ri = 0 ∨ len = aLen ri) (ho : ∀ z ∈ aOff ri, 0 ≤ (pc : Int) + z) (ht : aTr o ini ri = some op) (h : aBr op pc len st = some q)
    (k : W p l e R s m args below meth c H locs cells slots Q (F0 m q.1 rl (q.2.map (aTv ad)))) : W p l e R s m args below meth c H locs cells slots Q (F0 m pc rl (st.map (aTv ad))) := by
  obtain ⟨hx, hb, hown, hts, hE⟩ := F
  cases ri
  case goto z =>
    cases ht
    obtain rfl := aq_l 3 hl rfl (by decide)
    cases h
    exact lv_goto hx hb hd (aJ_at (ho z List.mem_cons_self)) k
  case ifCond cd z =>
    cases ht
    obtain rfl := aq_l 3 hl rfl (by decide)
    rcases st with _ | ⟨_ | _ | _ | _ | _ | _ | _, st⟩ <;> try exact aq_n h rfl
    rename_i x
    cases h
    have hj := aJ_at (ho z List.mem_cons_self)
    cases cd
    case eq =>
      have e0 : nI 0 = 0 := nI_0
      refine lv_if_eq hx hb hd hj (fun hq => ?_) (fun hq => ?_)
      · have e1 : aT .eq x (nI 0) = true := by simp [aT, hq, e0]
        rw [e1] at k
        exact k
      · have e1 : aT .eq x (nI 0) = false := by simp [aT, hq, e0]
        rw [e1] at k
        exact k
    case ne =>
      have e0 : nI 0 = 0 := nI_0
      refine lv_if_ne hx hb hd hj (fun hq => ?_) (fun hq => ?_)
      · have e1 : aT .ne x (nI 0) = true := by simp [aT, hq, e0]
        rw [e1] at k
        exact k
      · have e1 : aT .ne x (nI 0) = false := by simp [aT, hq, e0]
        rw [e1] at k
        exact k
    case lt =>
      have e0 : nI 0 = 0 := nI_0
      refine lv_if_lt hx hb hd hj (fun hq => ?_) (fun hq => ?_)
      · have e1 : aT .lt x (nI 0) = true := by simp [aT, hq, e0]
        rw [e1] at k
        exact k
      · have e1 : aT .lt x (nI 0) = false := by simp [aT, hq, e0]
        rw [e1] at k
        exact k
    case ge =>
      have e0 : nI 0 = 0 := nI_0
      refine lv_if_ge hx hb hd hj (fun hq => ?_) (fun hq => ?_)
      · have e1 : aT .ge x (nI 0) = true := by simp [aT, hq, e0]
        rw [e1] at k
        exact k
      · have e1 : aT .ge x (nI 0) = false := by simp [aT, hq, e0]
        rw [e1] at k
        exact k
    case gt =>
      have e0 : nI 0 = 0 := nI_0
      refine lv_if_gt hx hb hd hj (fun hq => ?_) (fun hq => ?_)
      · have e1 : aT .gt x (nI 0) = true := by simp [aT, hq, e0]
        rw [e1] at k
        exact k
      · have e1 : aT .gt x (nI 0) = false := by simp [aT, hq, e0]
        rw [e1] at k
        exact k
    case le =>
      have e0 : nI 0 = 0 := nI_0
      refine lv_if_le hx hb hd hj (fun hq => ?_) (fun hq => ?_)
      · have e1 : aT .le x (nI 0) = true := by simp [aT, hq, e0]
        rw [e1] at k
        exact k
      · have e1 : aT .le x (nI 0) = false := by simp [aT, hq, e0]
        rw [e1] at k
        exact k
  case if_icmp cd z =>
    cases ht
    obtain rfl := aq_l 3 hl rfl (by decide)
    rcases st with _ | ⟨_ | _ | _ | _ | _ | _ | _, st⟩ <;> try exact aq_n h rfl
    rcases st with _ | ⟨_ | _ | _ | _ | _ | _ | _, st⟩ <;> try exact aq_n h rfl
    rename_i y x
    cases h
    have hj := aJ_at (ho z List.mem_cons_self)
    cases cd
    case eq =>
      refine lv_icmp_eq hx hb hd hj (fun hq => ?_) (fun hq => ?_)
      · have e1 : aT .eq x y = true := by simp [aT, hq]
        rw [e1] at k
        exact k
      · have e1 : aT .eq x y = false := by simp [aT, hq]
        rw [e1] at k
        exact k
    case ne =>
      refine lv_icmp_ne hx hb hd hj (fun hq => ?_) (fun hq => ?_)
      · have e1 : aT .ne x y = true := by simp [aT, hq]
        rw [e1] at k
        exact k
      · have e1 : aT .ne x y = false := by simp [aT, hq]
        rw [e1] at k
        exact k
    case lt =>
      refine lv_icmp_lt hx hb hd hj (fun hq => ?_) (fun hq => ?_)
      · have e1 : aT .lt x y = true := by simp [aT, hq]
        rw [e1] at k
        exact k
      · have e1 : aT .lt x y = false := by simp [aT, hq]
        rw [e1] at k
        exact k
    case ge =>
      refine lv_icmp_ge hx hb hd hj (fun hq => ?_) (fun hq => ?_)
      · have e1 : aT .ge x y = true := by simp [aT, hq]
        rw [e1] at k
        exact k
      · have e1 : aT .ge x y = false := by simp [aT, hq]
        rw [e1] at k
        exact k
    case gt =>
      refine lv_icmp_gt hx hb hd hj (fun hq => ?_) (fun hq => ?_)
      · have e1 : aT .gt x y = true := by simp [aT, hq]
        rw [e1] at k
        exact k
      · have e1 : aT .gt x y = false := by simp [aT, hq]
        rw [e1] at k
        exact k
    case le =>
      refine lv_icmp_le hx hb hd hj (fun hq => ?_) (fun hq => ?_)
      · have e1 : aT .le x y = true := by simp [aT, hq]
        rw [e1] at k
        exact k
      · have e1 : aT .le x y = false := by simp [aT, hq]
        rw [e1] at k
        exact k
  case tableswitch d lo hi os =>
    cases ht
    rcases st with _ | ⟨_ | _ | _ | _ | _ | _ | _, st⟩ <;> try exact aq_n h rfl
    rename_i x
    have h : (if x.toInt < lo ∨ hi < x.toInt then some (aJ pc d, st) else match os[(x.toInt - lo).toNat]? with | some off => some (aJ pc off, st) | none => none) = some q := h
    split at h
    · rename_i hq
      cases h
      exact lv_tableOut hx hb hd hq (aJ_at (ho d List.mem_cons_self)) k
    · rename_i hq
      split at h
      · rename_i off hoff
        cases h
        exact lv_tableIn hx hb hd (fun z => hq (Or.inl z)) (fun z => hq (Or.inr z)) hoff (aJ_at (ho off (List.mem_cons_of_mem _ (Array.mem_toList_iff.mpr (Array.mem_of_getElem? hoff))))) k
      · cases h
  case lookupswitch d ps =>
    simp only [aTr] at ht
    obtain ⟨hq, rfl⟩ := aq_c ht
    rcases st with _ | ⟨_ | _ | _ | _ | _ | _ | _, st⟩ <;> try exact aq_n h rfl
    rename_i x
    cases h
    refine lv_lookup hx hb hd hq rfl (aJ_at (ho _ ?_)) k
    exact aLk_mem
  case getfield i =>
    simp only [aTr] at ht
    obtain ⟨r, hr, rfl⟩ := aq_m ht
    exact aq_n h rfl
  case getstatic i =>
    simp only [aTr] at ht
    obtain ⟨r, hr, rfl⟩ := aq_m ht
    exact aq_n h rfl
  case invokevirtual i =>
    simp only [aTr] at ht
    obtain ⟨r, hr, rfl⟩ := aq_m ht
    exact aq_n h rfl
  case invokestatic i =>
    simp only [aTr] at ht
    obtain ⟨r, hr, rfl⟩ := aq_m ht
    exact aq_n h rfl
  case invokespecial i =>
    simp only [aTr] at ht
    obtain ⟨r, hr, rfl⟩ := aq_m ht
    exact aq_n h rfl
  case new i =>
    simp only [aTr] at ht
    obtain ⟨r, hr, rfl⟩ := aq_m ht
    exact aq_n h rfl
  case ldc_w i =>
    simp only [aTr] at ht
    obtain ⟨r, hr, rfl⟩ := aq_m ht
    exact aq_n h rfl
  case ldc2_w i =>
    simp only [aTr] at ht
    obtain ⟨r, hr, rfl⟩ := aq_m ht
    exact aq_n h rfl
  case putfield i =>
    simp only [aTr] at ht
    obtain ⟨r, hr, ht⟩ := aq_b ht
    obtain ⟨-, rfl⟩ := aq_c ht
    exact aq_n h rfl
  case ldc i =>
    simp only [aTr] at ht
    split at ht
    · cases ht
      exact aq_n h rfl
    · obtain ⟨r, hr, rfl⟩ := aq_m ht
      exact aq_n h rfl
  case anewarray i =>
    simp only [aTr] at ht
    obtain ⟨r, hr, ht⟩ := aq_b ht
    revert ht
    cases Nat.beq r.2.2.1 3 <;> cases Nat.beq r.2.2.1 1 <;> cases Nat.beq r.2.2.1 7 <;> intro ht <;> cases ht <;> exact aq_n h rfl
  case multianewarray i d =>
    simp only [aTr] at ht
    obtain ⟨-, rfl⟩ := aq_c ht
    exact aq_n h rfl
  case iinc i n =>
    simp only [aTr] at ht
    obtain ⟨-, rfl⟩ := aq_c ht
    exact aq_n h rfl
  case iconst n =>
    simp only [aTr] at ht
    obtain ⟨-, rfl⟩ := aq_c ht
    exact aq_n h rfl
  case bipush n =>
    simp only [aTr] at ht
    obtain ⟨-, rfl⟩ := aq_c ht
    exact aq_n h rfl
  case sipush n =>
    simp only [aTr] at ht
    obtain ⟨-, rfl⟩ := aq_c ht
    exact aq_n h rfl
  case lconst n =>
    simp only [aTr] at ht
    obtain ⟨-, rfl⟩ := aq_c ht
    exact aq_n h rfl
  case jsr_w n =>
    cases ht
  all_goals (cases ht; exact aq_n h rfl)
end ALOC
