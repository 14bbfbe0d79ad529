/-! the abstract machine's cells as a world of the kit's; what stands outside it -/
def aTv (ad : Nat → Nat) : Value → Value
  | .ref k => .ref (ad k)
  | v => v
def aFv (ad : Nat → Nat) (N : aV) (c k j : Nat) : Value := match aFk c j with
  | 0 => .int (N.2.1 k j)
  | 1 => .long (N.2.2.1 k j)
  | _ => va_rf ((N.2.2.2 k j).map ad)
def aE (dA : Nat → ClassId) (ad : Nat → Nat) (N : aV) (k : Nat) (e : Nat × Nat) : va_E :=
  if e.1 < 12 then .inr (e.1, (List.range e.2).map (aFv ad N e.1 k))
  else if e.1 < 22 then .inl (dA e.1, e.2, .inl (N.2.1 k))
  else if e.1 = 22 then .inl (dA e.1, e.2, .inr (.inl (N.2.2.1 k)))
  else .inl (dA e.1, e.2, .inr (.inr (.inr (.inr (fun j => (N.2.2.2 k j).map ad)))))
theorem aE_obj {dA : Nat → ClassId} {ad : Nat → Nat} {N : aV} {k c n : Nat} (h : c < 12) : aE dA ad N k (c, n) = .inr (c, (List.range n).map (aFv ad N c k)) := by
  unfold aE
  rw [if_pos h]
theorem aE_int {dA : Nat → ClassId} {ad : Nat → Nat} {N : aV} {k c n : Nat} (h : c = 20 ∨ c = 21) : aE dA ad N k (c, n) = .inl (dA c, n, .inl (N.2.1 k)) := by
  unfold aE
  rw [if_neg (by dsimp only; omega), if_pos (by dsimp only; omega)]
theorem aE_long {dA : Nat → ClassId} {ad : Nat → Nat} {N : aV} {k n : Nat} : aE dA ad N k (22, n) = .inl (dA 22, n, .inr (.inl (N.2.2.1 k))) := rfl
theorem aE_ref {dA : Nat → ClassId} {ad : Nat → Nat} {N : aV} {k c n : Nat} (h : 22 < c) : aE dA ad N k (c, n) = .inl (dA c, n, .inr (.inr (.inr (.inr (fun j => (N.2.2.2 k j).map ad))))) := by
  unfold aE
  rw [if_neg (by dsimp only; omega), if_neg (by dsimp only; omega), if_neg (by dsimp only; omega)]
def aWl (dA : Nat → ClassId) (ad : Nat → Nat) (N : aV) : va_W := (List.range N.1.length).map fun k => (ad k, aE dA ad N k (N.1.getD k (0, 0)))
theorem aWl_len {dA : Nat → ClassId} {ad : Nat → Nat} {N : aV} : (aWl dA ad N).length = N.1.length := by simp [aWl]
theorem aWl_get {dA : Nat → ClassId} {ad : Nat → Nat} {N : aV} {k : Nat} {e : Nat × Nat} (h : N.1[k]? = some e) : (aWl dA ad N)[k]? = some (ad k, aE dA ad N k e) := by
  have hk : k < N.1.length := (List.getElem?_eq_some_iff.mp h).1
  unfold aWl
  rw [List.getElem?_map, List.getElem?_range hk]
  simp [List.getD, h]
theorem aWl_at {dA : Nat → ClassId} {ad : Nat → Nat} {N : aV} {k : Nat} {q : Nat × va_E} (h : (aWl dA ad N)[k]? = some q) : k < N.1.length ∧ q = (ad k, aE dA ad N k (N.1.getD k (0, 0))) := by
  have hk : k < N.1.length := by
    have := (List.getElem?_eq_some_iff.mp h).1
    rwa [aWl_len] at this
  unfold aWl at h
  rw [List.getElem?_map, List.getElem?_range hk] at h
  exact ⟨hk, (Option.some.inj h).symm⟩
theorem aE_congr {dA : Nat → ClassId} {ad : Nat → Nat} {N N' : aV} {k : Nat} {e : Nat × Nat} (h1 : N'.2.1 k = N.2.1 k) (h2 : N'.2.2.1 k = N.2.2.1 k) (h3 : N'.2.2.2 k = N.2.2.2 k) : aE dA ad N' k e = aE dA ad N k e := by
  have hf : aFv ad N' e.1 k = aFv ad N e.1 k := by
    funext j
    unfold aFv
    rw [h1, h2, h3]
  unfold aE
  rw [hf, h1, h2, h3]
theorem aWl_set {dA : Nat → ClassId} {ad : Nat → Nat} {N N' : aV} {a : Nat} {e : Nat × Nat} (hs : N'.1 = N.1) (h : N.1[a]? = some e) (h1 : ∀ k, k ≠ a → N'.2.1 k = N.2.1 k) (h2 : ∀ k, k ≠ a → N'.2.2.1 k = N.2.2.1 k) (h3 : ∀ k, k ≠ a → N'.2.2.2 k = N.2.2.2 k) : aWl dA ad N' = (aWl dA ad N).set a (ad a, aE dA ad N' a e) := by
  have ha : a < N.1.length := (List.getElem?_eq_some_iff.mp h).1
  apply List.ext_getElem?
  intro i
  by_cases hi : i = a
  · subst hi
    rw [List.getElem?_set_self (by rw [aWl_len]; exact ha), aWl_get (e := e) (by rw [hs]; exact h)]
  · rw [List.getElem?_set_ne (Ne.symm hi)]
    unfold aWl
    rw [hs, List.getElem?_map, List.getElem?_map]
    cases hr : (List.range N.1.length)[i]? with
    | none => rfl
    | some j =>
      have hj : j = i := by
        have hl := (List.getElem?_eq_some_iff.mp hr).1
        rw [List.length_range] at hl
        rw [List.getElem?_range hl] at hr
        exact (Option.some.inj hr).symm
      subst hj
      simp only [Option.map_some, aE_congr (h1 j hi) (h2 j hi) (h3 j hi)]
theorem aUp_row {α : Type} {f : Nat → Nat → α} {a j : Nat} {x : α} : ∀ k, k ≠ a → aUp f a j x k = f k := fun k hk => by
  funext i
  unfold aUp
  rw [if_neg (fun q => hk q.1)]
theorem aUp_self {f : Nat → Nat → Int32} {a j : Nat} {x : Int32} : aUp f a j x a = upd (f a) j x := by
  funext i
  unfold aUp upd
  by_cases h : i = j
  · rw [if_pos ⟨rfl, h⟩, if_pos h]
  · rw [if_neg (fun q => h q.2), if_neg h]
theorem aUp_selfL {f : Nat → Nat → Int64} {a j : Nat} {x : Int64} : aUp f a j x a = vp_updL (f a) j x := by
  funext i
  unfold aUp vp_updL
  by_cases h : i = j
  · rw [if_pos ⟨rfl, h⟩, if_pos h]
  · rw [if_neg (fun q => h q.2), if_neg h]
theorem aUp_selfR {f : Nat → Nat → Option Nat} {a j : Nat} {x : Option Nat} {ad : Nat → Nat} : (fun i => (aUp f a j x a i).map ad) = va_up (fun i => (f a i).map ad) j (x.map ad) := by
  funext i
  unfold aUp va_up
  by_cases h : i = j
  · rw [if_pos ⟨rfl, h⟩, if_pos h]
  · rw [if_neg (fun q => h q.2), if_neg h]
theorem aIn_vp {i : Int32} {n : Nat} (h : aIn i n = true) : vp_in i n := by
  unfold aIn at h
  rw [Bool.and_eq_true, Bool.not_eq_true', decide_eq_false_iff_not, Nat.blt_eq] at h
  intro q
  rcases q with q | q
  · exact h.1 q
  · omega
theorem aIn_of {i : Int32} {n : Nat} (h : vp_in i n) : aIn i n = true := by
  unfold aIn
  rw [Bool.and_eq_true, Bool.not_eq_true', decide_eq_false_iff_not, Nat.blt_eq]
  exact ⟨fun q => h (Or.inl q), Nat.not_le.mp fun q => h (Or.inr q)⟩
/-- a field written: the object's row of values -/
theorem aFs_set {ad : Nat → Nat} {N N' : aV} {c a n j : Nat} {v : Value} (hv : aFv ad N' c a j = v) (ho : ∀ i, i ≠ j → aFv ad N' c a i = aFv ad N c a i) : (List.range n).map (aFv ad N' c a) = ((List.range n).map (aFv ad N c a)).set j v := by
  apply List.ext_getElem?
  intro i
  by_cases hi : i = j
  · subst hi
    by_cases hl : i < n
    · rw [List.getElem?_set_self (by simp [hl]), List.getElem?_map, List.getElem?_range hl]
      exact congrArg some hv
    · rw [List.getElem?_eq_none (by simp; omega), List.getElem?_eq_none (by simp; omega)]
  · rw [List.getElem?_set_ne (Ne.symm hi), List.getElem?_map, List.getElem?_map]
    by_cases hl : i < n
    · rw [List.getElem?_range hl]
      exact congrArg some (ho i hi)
    · rw [List.getElem?_eq_none (by simp; omega)]
      rfl
/-- array classes -/
def aTys (dA : Nat → ClassId) : List (ClassId × FieldType) := [(dA 20, .int), (dA 21, .byte), (dA 22, .long), (dA 23, .object RX4), (dA 24, .object RX1), (dA 25, .object RX8), (dA 26, .array .int)]
def aSk : List Nat := [42, 75, 88, 99, 106]
def aSx : List String := ["part", "id", "sample", "extest", "cells"]
def aSn : List Nat := [4, 2, 6, 6, 5]
theorem va_AOA_moved {u U : State} (hvm : u.vm.Alike U.vm) (h : (Jvm.Cond.arrayOver (.array .int)).before #[] u = true) : (Jvm.Cond.arrayOver (.array .int)).before #[] U = true := by
  unfold Cond.before at h
  simp only [Cond.holds, Cond.value, beq_iff_eq] at h
  cases hc : u.vm.findClass (FieldType.array .int).toString with
  | none => simp [hc] at h
  | some comp =>
    simp only [hc, Option.bind_some, Option.bind_eq_some_iff, Option.map_eq_some_iff] at h
    obtain ⟨c, h2, k, h3, hb⟩ := h
    obtain ⟨k', hk', he⟩ := hvm.2.2 _ _ h3
    have hi : (U.vm.classes.findIdx? fun (x : Class) => match x.kind with | .array component _ => component == comp | _ => false) = some c := by
      have e3 : U.vm.bare = u.vm.bare := by first | exact hvm.bare_eq | exact hvm.bare_eq.symm
      have e1 := va_idx_bare U.vm comp
      rw [e3, va_idx_bare u.vm comp] at e1
      exact e1.symm.trans h2
    have hkk : k'.kind = k.kind := by rw [he]
    have f1 : U.vm.findClass (FieldType.array .int).toString = some comp := by rw [hvm.findClass]; exact hc
    unfold Cond.before Cond.holds
    simp only [Cond.value]
    rw [f1, Option.bind_some]
    refine (congrArg (fun o : Option Nat => (o.bind (fun c => (U.vm.classes[c]?).map fun (k : Class) => match k.kind with | .array _ ty => decide (ty = FieldType.array .int) && decide (U.vm.findClass ("[" ++ (FieldType.array .int).toString) = some c) | _ => false) == some true)) hi).trans ?_
    cases hz : k.kind with
    | array comp2 ty =>
      rw [hz] at hb
      simp only [Bool.and_eq_true, decide_eq_true_eq] at hb
      simp [hk', hkk, hz, hb.1, hvm.findClass, hb.2]
    | _ => rw [hz] at hb; simp at hb
/-- what stands outside the world, and stays: words of nest mates, classes of arrays, two static arrays, five strings -/
def aExt (ad : Nat → Nat) (A : Nat → Prop) (U : State) (H : Heap) : Prop :=
  (∀ w ∈ aNst, va_Nw w U) ∧ (va_AO RX4 U ∧ va_AO RX1 U ∧ va_AO RX8 U ∧ (Jvm.Cond.arrayOver (.array .int)).before #[] U = true) ∧
  (∀ w, w < 2 → va_Z "EdgeChain" (aSt w) "[I" (.ref (ad (1000000 + w))) A U H ∧ va_T .int (ad (1000000 + w)) 16 (fun j => .int (aA w j)) A U H) ∧
  (∀ w, w < 5 → vk_R RX7 (aSk.getD w 0) (aSx.getD w "") (ad (1000010 + w)) U) ∧
  (∃ adV : Nat → Nat, vk_S 5 aSn aStr (fun w => ad (1000010 + w)) adV A U H) ∧ va_Z RJ0 "COMPACT_STRINGS" "Z" (.int 1) A U H ∧ va_Zq RJ3 "SIOOBE_FORMATTER" "Ljava/util/function/BiFunction;" A U H
theorem aNst_warm {w : Jvm.Cond} (hw : w ∈ aNst) {s U : State} (hW : s.WarmedH U.vm) (h : va_Nw w s) : va_Nw w U := by
  have key : (∃ a i x b, w = .methodLinkNest a i x b) ∨ ∃ a i b n d g, w = .fieldLinkNest a i b n d g := by
    unfold aNst at hw
    simp only [List.mem_cons, List.not_mem_nil, or_false] at hw
    rcases hw with h | h | h | h | h | h | h | h | h | h | h | h | h | h <;> first | exact Or.inl ⟨_, _, _, _, h⟩ | exact Or.inr ⟨_, _, _, _, _, _, h⟩
  rcases key with ⟨a, i, x, b, rfl⟩ | ⟨a, i, b, n, d, g, rfl⟩
  · exact va_Nw.warmM hW h
  · exact va_Nw.warmF hW h
theorem va_Zq.moved' {C n d : String} {A : Nat → Prop} {u U : State} {H : Heap} (hvm : u.vm.Alike U.vm) (h : va_Zq C n d A u H) : va_Zq C n d A U H := by
  rcases h with h | ⟨t, h⟩
  · exact Or.inl (h.moved hvm)
  · exact Or.inr ⟨t, h.moved hvm⟩
theorem aExt.warm {ad : Nat → Nat} {A : Nat → Prop} {s U : State} {H : Heap} (hW : s.WarmedH U.vm) (h : aExt ad A s H) : aExt ad A U H := by
  obtain ⟨h1, ⟨h2, h3, h4, h5⟩, h6, h7, ⟨v, h8⟩, h9, h10⟩ := h
  have hv := hW.alike
  exact ⟨fun w hw => aNst_warm hw hW (h1 w hw), ⟨h2.moved hv, h3.moved hv, h4.moved hv, va_AOA_moved hv h5⟩, fun w hw => ⟨(h6 w hw).1.moved hv, (h6 w hw).2.moved hv⟩, fun w hw => (h7 w hw).warm hW, ⟨v, h8.moved hv⟩, h9.moved hv, h10.moved' hv⟩
theorem aExt.kept {ad : Nat → Nat} {A : Nat → Prop} {U : State} {H H1 : Heap} (hq : ∀ a : Nat, a < H.size → ¬ A a → H1[a]? = H[a]?) (h : aExt ad A U H) : aExt ad A U H1 := by
  obtain ⟨h1, h2, h6, h7, ⟨v, h8⟩, h9, h10⟩ := h
  refine ⟨h1, h2, fun w hw => ⟨(h6 w hw).1.kept hq, (h6 w hw).2.kept hq⟩, h7, ⟨v, h8.kept hq⟩, h9.kept hq, ?_⟩
  rcases h10 with h | ⟨t, h⟩
  · exact Or.inl (h.kept hq)
  · exact Or.inr ⟨t, h.kept hq⟩
theorem aExt.narrow {ad : Nat → Nat} {A B : Nat → Prop} {U : State} {H : Heap} (hq : ∀ q, B q → A q) (h : aExt ad A U H) : aExt ad B U H := by
  obtain ⟨h1, h2, h6, h7, ⟨v, h8⟩, h9, h10⟩ := h
  refine ⟨h1, h2, fun w hw => ⟨(h6 w hw).1.narrow hq, (h6 w hw).2.narrow hq⟩, h7, ⟨v, h8.narrow hq⟩, h9.narrow hq, ?_⟩
  rcases h10 with h | ⟨t, h⟩
  · exact Or.inl (h.narrow hq)
  · exact Or.inr ⟨t, h.narrow hq⟩
theorem va_Nw_same {w : Jvm.Cond} (hw : w ∈ aNst) {u U : State} (h : u.vm = U.vm) (hZ : va_Nw w u) : va_Nw w U := by
  refine hZ.same ?_ h
  unfold aNst at hw
  simp only [List.mem_cons, List.not_mem_nil, or_false] at hw
  rcases hw with h | h | h | h | h | h | h | h | h | h | h | h | h | h <;> (rw [h]; rfl)
/-- other addresses of the cells: those outside are the same -/
theorem aExt.ad {ad ad' : Nat → Nat} {A : Nat → Prop} {U : State} {H : Heap} (ha : ∀ k, 1000000 ≤ k → ad' k = ad k) (h : aExt ad A U H) : aExt ad' A U H := by
  obtain ⟨h1, h2, h6, h7, ⟨v, h8⟩, h9, h10⟩ := h
  refine ⟨h1, h2, fun w hw => ?_, fun w hw => ?_, ⟨v, ?_⟩, h9, h10⟩
  · rw [ha _ (by omega)]; exact h6 w hw
  · rw [ha _ (by omega)]; exact h7 w hw
  · have e : (fun w => ad' (1000010 + w)) = fun w => ad (1000010 + w) := by
      funext w
      exact ha _ (by omega)
    rw [e]; exact h8
/-- only the frames differ -/
theorem aExt.same {ad : Nat → Nat} {A : Nat → Prop} {u U : State} {H : Heap} (hv : u.vm = U.vm) (h : aExt ad A u H) : aExt ad A U H := by
  obtain ⟨h1, ⟨h2, h3, h4, h5⟩, h6, h7, ⟨v, h8⟩, h9, h10⟩ := h
  have ha : u.vm.Alike U.vm := hv ▸ Vm.Alike.refl u.vm
  exact ⟨fun w hw => va_Nw_same hw hv (h1 w hw), ⟨h2.moved ha, h3.moved ha, h4.moved ha, va_AOA_moved ha h5⟩, fun w hw => ⟨(h6 w hw).1.moved ha, (h6 w hw).2.moved ha⟩, fun w hw => (h7 w hw).same hv.symm, ⟨v, h8.moved ha⟩, h9.moved ha, h10.moved' ha⟩
