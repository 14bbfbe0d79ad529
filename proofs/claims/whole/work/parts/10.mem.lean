/-! memory: reads, writes, new cells -/
def csz (N : aV) : Nat := (N.1.map (·.2)).sum
def aWd (D : va_G) (dA : Nat → ClassId) (ad : Nat → Nat) (A : Nat → Prop) (s : State) (N : aV) (H : Heap) (locs : List Loc) : Prop := va_P D vwCl (aWl dA ad N) H ∧ va_D A (aWl dA ad N) ∧ va_S A s.heap H locs
theorem aTv_rf {ad : Nat → Nat} {q : Option Nat} : aTv ad (va_rf q) = va_rf (q.map ad) := by cases q <;> rfl
theorem aq_bif {α : Type} {b : Bool} {x y : α} (h : (bif b then some x else none) = some y) : b = true ∧ x = y := by
  cases b with
  | true => exact ⟨rfl, Option.some.inj h⟩
  | false => cases h
theorem aGet_v {N : aV} {c j a : Nat} {v : Value} {ad : Nat → Nat} (h : aGet N c j a = some v) : ∃ n, N.1[a]? = some (c, n) ∧ j < n ∧ aTv ad v = aFv ad N c a j := by
  unfold aGet at h
  split at h
  · rename_i c' n hq
    cases hb : Nat.beq c' c && Nat.blt j n <;> rw [hb] at h
    · cases h
    · simp only [Bool.and_eq_true, Nat.beq_eq, Nat.blt_eq] at hb
      obtain ⟨rfl, hb⟩ := hb
      refine ⟨n, hq, hb, ?_⟩
      have h : (match aFk c' j with
        | 0 => some (Value.int (N.2.1 a j))
        | 1 => some (Value.long (N.2.2.1 a j))
        | 2 => some (va_rf (N.2.2.2 a j))
        | _ => none) = some v := h
      unfold aFv
      split at h <;> rename_i hk <;> first | (cases h; done) | (cases h; simp only [hk]; first | rfl | exact aTv_rf)
  · cases h
theorem aPut_v {N N' : aV} {c j a : Nat} {v : Value} {ad : Nat → Nat} {dA : Nat → ClassId} (hc : c < 12) (hf : aFko c j = true) (h : aPut N c j a v = some N') : ∃ n, N.1[a]? = some (c, n) ∧ j < n ∧ narrow (aTyf c j) (aTv ad v) = aTv ad v ∧ fits (aTyf c j) (aTv ad v) = true ∧ N'.1 = N.1 ∧ aWl dA ad N' = (aWl dA ad N).set a (ad a, .inr (c, ((List.range n).map (aFv ad N c a)).set j (aTv ad v))) := by
  unfold aPut at h
  split at h
  · rename_i c' n hq
    cases hb : Nat.beq c' c && Nat.blt j n <;> rw [hb] at h
    · cases h
    · simp only [Bool.and_eq_true, Nat.beq_eq, Nat.blt_eq] at hb
      obtain ⟨rfl, hb⟩ := hb
      refine ⟨n, hq, hb, ?_⟩
      unfold aFko at hf
      simp only [cond_true] at h
      split at h
      · rename_i x hk
        cases h
        rw [hk] at hf
        have hf : aTyf c' j = .int := of_decide_eq_true hf
        rw [hf]
        refine ⟨rfl, rfl, rfl, ?_⟩
        rw [aWl_set (N := N) (N' := (N.1, aUp N.2.1 a j x, N.2.2)) (a := a) rfl hq aUp_row (fun _ _ => rfl) (fun _ _ => rfl), aE_obj hc, aFs_set (N := N) (j := j)]
        · simp only [aFv, hk, aUp, and_self, if_true, aTv]
        · intro i hi
          unfold aFv
          simp only [aUp, hi, and_false, if_false]
      · rename_i x hk
        cases h
        rw [hk] at hf
        have hf : aTyf c' j = .long := of_decide_eq_true hf
        rw [hf]
        refine ⟨rfl, rfl, rfl, ?_⟩
        rw [aWl_set (N := N) (N' := (N.1, N.2.1, aUp N.2.2.1 a j x, N.2.2.2)) (a := a) rfl hq (fun _ _ => rfl) aUp_row (fun _ _ => rfl), aE_obj hc, aFs_set (N := N) (j := j)]
        · simp only [aFv, hk, aUp, and_self, if_true, aTv]
        · intro i hi
          unfold aFv
          simp only [aUp, hi, and_false, if_false]
      · rename_i x hk
        cases h
        rw [hk] at hf
        have hf : aRt (aTyf c' j) = true := hf
        have h2 : narrow (aTyf c' j) (aTv ad (.ref x)) = aTv ad (.ref x) ∧ fits (aTyf c' j) (aTv ad (.ref x)) = true := by
          cases ht : aTyf c' j <;> rw [ht] at hf <;> first | exact ⟨rfl, rfl⟩ | (cases hf; done)
        refine ⟨h2.1, h2.2, rfl, ?_⟩
        rw [aWl_set (N := N) (N' := (N.1, N.2.1, N.2.2.1, aUp N.2.2.2 a j (some x))) (a := a) rfl hq (fun _ _ => rfl) (fun _ _ => rfl) aUp_row, aE_obj hc, aFs_set (N := N) (j := j)]
        · simp only [aFv, hk, aUp, and_self, if_true, aTv]
          rfl
        · intro i hi
          unfold aFv
          simp only [aUp, hi, and_false, if_false]
      · cases h
  · cases h
theorem aFs_at {ad : Nat → Nat} {N : aV} {c a n j : Nat} (h : j < n) : ((List.range n).map (aFv ad N c a))[j]? = some (aFv ad N c a j) := by
  rw [List.getElem?_map, List.getElem?_range h]; rfl
theorem aCr_at {o k : Nat} {r : Nat × Nat × Nat × Nat} (hr : (aCr.find? fun r => Nat.beq r.1 o && Nat.beq r.2.1 k) = some r) : r.2.2.1 < 12 ∧ Jvm.Cond.classLink (aOn o) k (aCl r.2.2.1).1 ∈ gw := by
  have h1 := List.find?_some hr
  have h2 := List.all_eq_true.mp aCr_ok r (List.mem_of_find?_eq_some hr)
  unfold aCrOk at h2
  simp only [Bool.and_eq_true, Nat.beq_eq, Nat.blt_eq] at h1 h2
  have a5 := aTw_in h2.2
  rw [h1.1, h1.2] at a5
  exact ⟨h2.1, a5⟩
/-- a new cell behind the others -/
theorem aWl_new {dA : Nat → ClassId} {ad : Nat → Nat} {N : aV} {e : Nat × Nat} : aWl dA ad (aNew N e) = aWl dA ad N ++ [(ad N.1.length, aE dA ad (aNew N e) N.1.length e)] := by
  unfold aWl
  have hl : (aNew N e).1.length = N.1.length + 1 := by show (N.1 ++ [e]).length = _; simp
  rw [hl, List.range_succ, List.map_append]
  congr 1
  · apply List.map_congr_left
    intro k hk
    have hk := List.mem_range.mp hk
    have h1 : (aNew N e).1.getD k (0, 0) = N.1.getD k (0, 0) := by
      show (N.1 ++ [e]).getD k (0, 0) = _
      simp only [List.getD, List.getElem?_append_left hk]
    have hne : k ≠ N.1.length := by omega
    rw [h1, aE_congr (N' := aNew N e) (N := N) (by funext i; simp only [aNew, hne, if_false]) (by funext i; simp only [aNew, hne, if_false]) (by funext i; simp only [aNew, hne, if_false])]
  · have h1 : (aNew N e).1.getD N.1.length (0, 0) = e := by
      show (N.1 ++ [e]).getD N.1.length (0, 0) = e
      simp [List.getD]
    simp only [List.map_cons, List.map_nil, h1]
theorem csz_new {N : aV} {e : Nat × Nat} : csz (aNew N e) = csz N + e.2 := by
  show ((N.1 ++ [e]).map (·.2)).sum = _
  simp [csz]
theorem aLen_new {N : aV} {e : Nat × Nat} : (aNew N e).1.length = N.1.length + 1 := by
  show (N.1 ++ [e]).length = _
  simp
theorem aNews_at {N : aV} {e : Nat × Nat} : ∀ i, (aNews N e i).1.length = N.1.length + i ∧ csz (aNews N e i) = csz N + i * e.2 ∧ (∀ k, k < N.1.length → (aNews N e i).1.getD k (0, 0) = N.1.getD k (0, 0) ∧ (aNews N e i).2.1 k = N.2.1 k ∧ (aNews N e i).2.2.1 k = N.2.2.1 k ∧ (aNews N e i).2.2.2 k = N.2.2.2 k) ∧ (∀ j, j < i → (aNews N e i).1.getD (N.1.length + j) (0, 0) = e ∧ (aNews N e i).2.1 (N.1.length + j) = fun _ => 0)
  | 0 => ⟨rfl, by simp [aNews], fun k _ => ⟨rfl, rfl, rfl, rfl⟩, fun j h => by omega⟩
  | i + 1 => by
    obtain ⟨h1, h2, h3, h4⟩ := aNews_at (N := N) (e := e) i
    have e0 : aNews N e (i + 1) = aNew (aNews N e i) e := rfl
    rw [e0]
    have hg : ∀ k, k < (aNews N e i).1.length → (aNew (aNews N e i) e).1.getD k (0, 0) = (aNews N e i).1.getD k (0, 0) := fun k hk => by
      show ((aNews N e i).1 ++ [e]).getD k (0, 0) = _
      simp only [List.getD, List.getElem?_append_left hk]
    refine ⟨by rw [aLen_new, h1]; omega, by rw [csz_new, h2, Nat.succ_mul]; omega, fun k hk => ?_, fun j hj => ?_⟩
    · obtain ⟨a1, a2, a3, a4⟩ := h3 k hk
      have hne : k ≠ (aNews N e i).1.length := by omega
      refine ⟨by rw [hg k (by omega), a1], ?_, ?_, ?_⟩
      · rw [← a2]; funext z; simp only [aNew, hne, if_false]
      · rw [← a3]; funext z; simp only [aNew, hne, if_false]
      · rw [← a4]; funext z; simp only [aNew, hne, if_false]
    · by_cases hji : j < i
      · obtain ⟨a1, a2⟩ := h4 j hji
        have hne : N.1.length + j ≠ (aNews N e i).1.length := by omega
        refine ⟨by rw [hg _ (by omega), a1], ?_⟩
        rw [← a2]; funext z; simp only [aNew, hne, if_false]
      · have hj2 : N.1.length + j = (aNews N e i).1.length := by omega
        rw [hj2]
        refine ⟨?_, ?_⟩
        · show ((aNews N e i).1 ++ [e]).getD (aNews N e i).1.length (0, 0) = e
          simp [List.getD]
        · funext z; simp only [aNew, if_true]
theorem vr_out (c : ClassId) (N h0 : Nat) : ∀ i : Nat, Jvm.Free.Multi.outerC c N h0 i = arrV c N (fun j => va_rf (if j < i then some (h0 + 1 + j) else none))
  | 0 => by
    show ({ cls := c, slots := Array.replicate N .null, vm := .none } : Cell) = _
    rw [arrV_new]
    refine congrArg (arrV c N) (funext fun j => ?_)
    simp [va_rf]
  | i + 1 => by
    show (Jvm.Free.Multi.outerC c N h0 i).setSlot i (.ref (h0 + 1 + i)) = _
    rw [vr_out c N h0 i, arrV_store]
    refine congrArg (arrV c N) (funext fun j => ?_)
    by_cases e : j = i
    · subst e
      simp [updV, va_rf]
    · by_cases h : j < i
      · simp [updV, e, h, Nat.lt_succ_of_lt h]
      · simp [updV, e, h, show ¬ j < i + 1 by omega]
section AMEM
variable {p : Program} {l : Launch} {e : Env} {R : Room} {s : State} {m : MethodId} {args : Array Value} {below : List Frame} {meth : Method} {c : Code} {H : Heap} {locs : List Loc} {cells slots : Nat} {Q : State → Prop}
variable {cc : ByteArray} {pc len o : Nat} {ini al : Bool} {rl : Array Slot} {ad : Nat → Nat} {A : Nat → Prop} {ri op : Instr} {D : va_G} {dA : Nat → ClassId} {N : aV}
/-- where a new cell lies -/
theorem aNew_at {q : Nat} {E : va_E} {H1 : Heap} {T : State} {n : Nat} (hz : (∀ k, k < 1000000 → ad k = ad 0 + k) ∧ s.heap.size + cells = ad 0 + N.1.length ∧ (∀ q, A q → ad 0 ≤ q) ∧ N.1.length < 1000000) (hP : va_P D vwCl (aWl dA ad N ++ [(q, E)]) H1) (hD : va_D A (aWl dA ad N ++ [(q, E)])) (hT : T.heap = H1) (X : Stand p l e R s m args below meth c T locs (cells + 1) n) : q = ad N.1.length := by
  obtain ⟨z1, z2, z3, z4⟩ := hz
  have hg : (aWl dA ad N ++ [(q, E)])[N.1.length]? = some (q, E) := by
    rw [List.getElem?_append_right (by rw [aWl_len]; exact Nat.le_refl _), aWl_len]
    simp
  have hlt : q < H1.size := (hP _ _ hg).lt
  have hb : T.heap.size ≤ s.heap.size + (cells + 1) := X.same.2.2.1
  rw [hT] at hb
  have ha : ad 0 ≤ q := z3 q (hD.2 _ _ hg)
  rw [z1 _ z4]
  by_cases hlt2 : q < ad 0 + N.1.length
  · exfalso
    have hk : q - ad 0 < N.1.length := by omega
    have hgk : (aWl dA ad N ++ [(q, E)])[q - ad 0]? = some (ad (q - ad 0), aE dA ad N (q - ad 0) (N.1.getD (q - ad 0) (0, 0))) := by
      rw [List.getElem?_append_left (by rw [aWl_len]; exact hk)]
      exact (aWl_get (e := N.1.getD (q - ad 0) (0, 0)) (by simp [List.getD, List.getElem?_eq_getElem hk]))
    have := hD.1 _ _ _ _ hgk hg (by show ad (q - ad 0) = q; rw [z1 _ (by omega)]; omega)
    omega
  · omega
set_option maxHeartbeats 8000000 in
theorem aMemW {st : List Value} {q : List Value × aV} (F : aFix p s m args c cc o ad A) (hK : va_K D vwCl (aTys dA) s) (hA : ∀ q, s.heap.size ≤ q → A q) (hW : aWd D dA ad A s N H locs) (hi : ini = true → meth.name = "<init>")
    (hz : al = true → (∀ k, k < 1000000 → ad k = ad 0 + k) ∧ s.heap.size + cells = ad 0 + N.1.length ∧ (∀ q, A q → ad 0 ≤ q) ∧ q.2.1.length < 1000000 ∧ 0 < N.1.length) (hR : cells + q.2.1.length ≤ R.cells + N.1.length ∧ slots + csz q.2 ≤ R.slots + csz N)
    (hd : decode cc pc = .ok (ri, len)) (hl : aLen ri = 0 ∨ len = aLen ri) (ht : aTr o ini ri = some op) (h : aMem al op st N = some q)
    (k : ∀ (H' : Heap) (locs' : List Loc) (cells' slots' : Nat), aWd D dA ad A s q.2 H' locs' → cells' + N.1.length = cells + q.2.1.length → slots' + csz N = slots + csz q.2 → W p l e R s m args below meth c H' locs' cells' slots' Q (F0 m (pc + len) rl (q.1.map (aTv ad)))) : W p l e R s m args below meth c H locs cells slots Q (F0 m pc rl (st.map (aTv ad))) := by
  obtain ⟨hx, hb, hown, hts, hE⟩ := F
  obtain ⟨hP, hD, hS⟩ := hW
  cases ri
  case getfield i =>
    simp only [aTr] at ht
    obtain ⟨r, hr, rfl⟩ := aq_m ht
    obtain rfl := aq_l 3 hl rfl (by decide)
    obtain ⟨a1, a2, a3, a4, a5⟩ := aFr_at hr
    rcases st with _ | ⟨_ | _ | _ | _ | _ | _ | _, st⟩ <;> try exact aq_n h rfl
    rename_i a
    have h : (match aGet N ((100 * r.2.2.1 + r.2.2.2.1) / 100) ((100 * r.2.2.1 + r.2.2.2.1) % 100) a with | some v => some (v :: st, N) | none => none) = some q := h
    rw [show (100 * r.2.2.1 + r.2.2.2.1) / 100 = r.2.2.1 by omega, show (100 * r.2.2.1 + r.2.2.2.1) % 100 = r.2.2.2.1 by omega] at h
    split at h
    · rename_i v hv
      cases h
      obtain ⟨n, b1, b2, b3⟩ := aGet_v (ad := ad) hv
      obtain ⟨f1, f2, f3, f4, f5, f6, -, -⟩ := aClF_all a1
      have hg := aWl_get (dA := dA) (ad := ad) b1
      rw [aE_obj a1] at hg
      refine va_get hx hb hts f2 hown hK hP a hg f1 r.2.2.2.1 a2 (hts _ a5) (fun x hx => by rw [a4] at hx; exact hx) (aFs_at b2) hd ?_
      rw [← b3]
      exact k H locs cells slots ⟨hP, hD, hS⟩ rfl rfl
    · cases h
  case putfield i =>
    simp only [aTr] at ht
    obtain ⟨r, hr, ht⟩ := aq_b ht
    obtain ⟨hfin, rfl⟩ := aq_c ht
    obtain rfl := aq_l 3 hl rfl (by decide)
    obtain ⟨a1, a2, a3, a4, a5⟩ := aFr_at hr
    rcases st with _ | ⟨v, st⟩ <;> try exact aq_n h rfl
    rcases st with _ | ⟨_ | _ | _ | _ | _ | _ | _, st⟩ <;> try (cases v <;> exact aq_n h rfl)
    rename_i a
    have h : (match aPut N ((100 * r.2.2.1 + r.2.2.2.1) / 100) ((100 * r.2.2.1 + r.2.2.2.1) % 100) a v with | some N2 => some (st, N2) | none => none) = some q := h
    rw [show (100 * r.2.2.1 + r.2.2.2.1) / 100 = r.2.2.1 by omega, show (100 * r.2.2.1 + r.2.2.2.1) % 100 = r.2.2.2.1 by omega] at h
    split at h
    · rename_i N2 hv
      cases h
      obtain ⟨f1, f2, f3, f4, f5, f6, -, -⟩ := aClF_all a1
      obtain ⟨n, b1, b2, b3, b4, b5, b6⟩ := aPut_v (ad := ad) (dA := dA) a1 (f6 _ a2) hv
      have hg := aWl_get (dA := dA) (ad := ad) b1
      rw [aE_obj a1] at hg
      have kk : ∀ (H1 : Heap) (locs1 : List Loc), va_P D vwCl ((aWl dA ad N).set a (ad a, .inr (r.2.2.1, ((List.range n).map (aFv ad N r.2.2.1 a)).set r.2.2.2.1 (aTv ad v)))) H1 → va_D A ((aWl dA ad N).set a (ad a, .inr (r.2.2.1, ((List.range n).map (aFv ad N r.2.2.1 a)).set r.2.2.2.1 (aTv ad v)))) → va_S A s.heap H1 locs1 → W p l e R s m args below meth c H1 locs1 cells slots Q (F0 m (pc + 3) rl (st.map (aTv ad))) := by
        intro H1 locs1 h1 h2 h3
        rw [← b6] at h1 h2
        exact k H1 locs1 cells slots ⟨h1, h2, h3⟩ (by rw [b5]) (by unfold csz; rw [b5])
      cases hf : aFinal r.2.2.1 r.2.2.2.1
      · exact va_put hx hb hts f2 (aTyf r.2.2.1) f3 f4 hown hK hP hD hS a hg f1 r.2.2.2.1 a2 (hts _ a5) (fun x hx => by rw [a4] at hx; exact hx) hf (f3 _ a2) b3 b4 (by simp; exact b2) hd kk
      · rw [hf] at hfin
        simp only [Bool.not_true, Bool.false_or, Bool.and_eq_true, decide_eq_true_eq] at hfin
        exact va_putF hx hb hts f2 (aTyf r.2.2.1) f3 f4 hown hK hP hD hS a hg f1 r.2.2.2.1 a2 (hts _ a5) (fun x hx => by rw [a4] at hx; exact hx) hf (hi hfin.1) (by rw [a4]; exact hfin.2) (f3 _ a2) b3 b4 (by simp; exact b2) hd kk
    · cases h
  case iaload =>
    cases ht
    obtain rfl := aq_l 1 hl rfl (by decide)
    rcases st with _ | ⟨_ | _ | _ | _ | _ | _ | _, st⟩ <;> try exact aq_n h rfl
    rcases st with _ | ⟨_ | _ | _ | _ | _ | _ | _, st⟩ <;> try exact aq_n h rfl
    rename_i i a
    have h : (bif Nat.ble 1000000 a then (bif Nat.blt a 1000002 && aIn i 16 then some (Value.int (aA (a - 1000000) i.toNatClampNeg) :: st, N) else none) else match N.1[a]? with | some (k, n) => (bif Nat.beq k 20 && aIn i n then some (Value.int (N.2.1 a i.toNatClampNeg) :: st, N) else none) | none => none) = some q := h
    cases hbl : Nat.ble 1000000 a <;> rw [hbl] at h
    · have h : (match N.1[a]? with | some (k, n) => (bif Nat.beq k 20 && aIn i n then some (Value.int (N.2.1 a i.toNatClampNeg) :: st, N) else none) | none => none) = some q := h
      split at h
      · rename_i kk n hq
        obtain ⟨h1, rfl⟩ := aq_bif h
        simp only [Bool.and_eq_true, Nat.beq_eq] at h1
        obtain ⟨rfl, h1⟩ := h1
        have hg := aWl_get (dA := dA) (ad := ad) hq
        rw [aE_int (Or.inl rfl)] at hg
        exact va_iald hx hb hK hP a 0 hg rfl (aIn_vp h1) hd (k H locs cells slots ⟨hP, hD, hS⟩ rfl rfl)
      · cases h
    · have h : (bif Nat.blt a 1000002 && aIn i 16 then some (Value.int (aA (a - 1000000) i.toNatClampNeg) :: st, N) else none) = some q := h
      obtain ⟨h1, rfl⟩ := aq_bif h
      simp only [Bool.and_eq_true, Nat.blt_eq] at h1
      rw [Nat.ble_eq] at hbl
      have ha : 1000000 + (a - 1000000) = a := Nat.add_sub_of_le hbl
      have hT := (hE.2.2.1 (a - 1000000) (Nat.sub_lt_left_of_lt_add hbl h1.1)).2
      rw [ha] at hT
      exact va_ti hx hb hT hS (aIn_vp h1.2) rfl hd (k H locs cells slots ⟨hP, hD, hS⟩ rfl rfl)
  case baload =>
    cases ht
    obtain rfl := aq_l 1 hl rfl (by decide)
    rcases st with _ | ⟨_ | _ | _ | _ | _ | _ | _, st⟩ <;> try exact aq_n h rfl
    rcases st with _ | ⟨_ | _ | _ | _ | _ | _ | _, st⟩ <;> try exact aq_n h rfl
    rename_i i a
    have h : (match N.1[a]? with | some (k, n) => (bif Nat.beq k 21 && aIn i n then some (Value.int (N.2.1 a i.toNatClampNeg) :: st, N) else none) | none => none) = some q := h
    split at h
    · rename_i kk n hq
      obtain ⟨h1, rfl⟩ := aq_bif h
      simp only [Bool.and_eq_true, Nat.beq_eq] at h1
      obtain ⟨rfl, h1⟩ := h1
      have hg := aWl_get (dA := dA) (ad := ad) hq
      rw [aE_int (Or.inr rfl)] at hg
      exact va_bald hx hb hK hP a 1 hg rfl (aIn_vp h1) hd (k H locs cells slots ⟨hP, hD, hS⟩ rfl rfl)
    · cases h
  case laload =>
    cases ht
    obtain rfl := aq_l 1 hl rfl (by decide)
    rcases st with _ | ⟨_ | _ | _ | _ | _ | _ | _, st⟩ <;> try exact aq_n h rfl
    rcases st with _ | ⟨_ | _ | _ | _ | _ | _ | _, st⟩ <;> try exact aq_n h rfl
    rename_i i a
    have h : (match N.1[a]? with | some (k, n) => (bif Nat.beq k 22 && aIn i n then some (Value.long (N.2.2.1 a i.toNatClampNeg) :: st, N) else none) | none => none) = some q := h
    split at h
    · rename_i kk n hq
      obtain ⟨h1, rfl⟩ := aq_bif h
      simp only [Bool.and_eq_true, Nat.beq_eq] at h1
      obtain ⟨rfl, h1⟩ := h1
      have hg := aWl_get (dA := dA) (ad := ad) hq
      rw [aE_long] at hg
      exact va_lald hx hb hK hP a 2 hg rfl (aIn_vp h1) hd (k H locs cells slots ⟨hP, hD, hS⟩ rfl rfl)
    · cases h
  case aaload =>
    cases ht
    obtain rfl := aq_l 1 hl rfl (by decide)
    rcases st with _ | ⟨_ | _ | _ | _ | _ | _ | _, st⟩ <;> try exact aq_n h rfl
    rcases st with _ | ⟨_ | _ | _ | _ | _ | _ | _, st⟩ <;> try exact aq_n h rfl
    rename_i i a
    have h : (match N.1[a]? with | some (k, n) => (bif Nat.blt 22 k && Nat.blt k 27 && aIn i n then some (va_rf (N.2.2.2 a i.toNatClampNeg) :: st, N) else none) | none => none) = some q := h
    split at h
    · rename_i kd n hq
      obtain ⟨h1, rfl⟩ := aq_bif h
      simp only [Bool.and_eq_true, Nat.blt_eq] at h1
      obtain ⟨⟨h1, h2⟩, h3⟩ := h1
      have hg := aWl_get (dA := dA) (ad := ad) hq
      rw [aE_ref h1] at hg
      have kk := k H locs cells slots ⟨hP, hD, hS⟩ rfl rfl
      rw [List.map_cons, aTv_rf] at kk
      have hc : kd = 23 ∨ kd = 24 ∨ kd = 25 ∨ kd = 26 := by omega
      rcases hc with rfl | rfl | rfl | rfl
      · exact va_aldq hx hb hK hP a 3 hg rfl (aIn_vp h3) hd kk
      · exact va_aldq hx hb hK hP a 4 hg rfl (aIn_vp h3) hd kk
      · exact va_aldq hx hb hK hP a 5 hg rfl (aIn_vp h3) hd kk
      · have hin := aIn_vp h3
        have hlt : i.toNatClampNeg < n := Nat.not_le.mp fun q => hin (Or.inr q)
        exact W.aald (v := va_rf ((N.2.2.2 a i.toNatClampNeg).map ad)) (ty := .array .int) hx hb (hP a _ hg) ((hK.2 6 _ rfl).1 n (fun j => va_rf ((N.2.2.2 a j).map ad))) rfl (fun q => by cases q) (by show ¬ (i < 0 ∨ (arrV _ _ _).slots.size ≤ _); rw [arrV_size]; exact hin) (by show (arrV _ _ _).slots[_]? = _; rw [arrV_read _ _ hlt]) rfl rfl hd kk
    · cases h
  case iastore =>
    cases ht
    obtain rfl := aq_l 1 hl rfl (by decide)
    rcases st with _ | ⟨_ | _ | _ | _ | _ | _ | _, st⟩ <;> try exact aq_n h rfl
    rcases st with _ | ⟨_ | _ | _ | _ | _ | _ | _, st⟩ <;> try exact aq_n h rfl
    rcases st with _ | ⟨_ | _ | _ | _ | _ | _ | _, st⟩ <;> try exact aq_n h rfl
    rename_i x i a
    have h : (match N.1[a]? with | some (k, n) => (bif Nat.beq k 20 && aIn i n then some ((st, N.1, aUp N.2.1 a i.toNatClampNeg x, N.2.2) : List Value × aV) else none) | none => none) = some q := h
    split at h
    · rename_i kk n hq
      obtain ⟨h1, rfl⟩ := aq_bif h
      simp only [Bool.and_eq_true, Nat.beq_eq] at h1
      obtain ⟨rfl, h1⟩ := h1
      have hg := aWl_get (dA := dA) (ad := ad) hq
      rw [aE_int (Or.inl rfl)] at hg
      refine va_iast hx hb hK hP hD hS a 0 hg rfl (aIn_vp h1) hd (fun H1 locs1 h1 h2 h3 => ?_)
      refine k H1 locs1 cells slots ⟨?_, ?_, h3⟩ rfl rfl
      · rw [aWl_set (N := N) (N' := (N.1, aUp N.2.1 a i.toNatClampNeg x, N.2.2)) (a := a) rfl hq aUp_row (fun _ _ => rfl) (fun _ _ => rfl), aE_int (Or.inl rfl)]
        dsimp only
        rw [aUp_self]
        exact h1
      · rw [aWl_set (N := N) (N' := (N.1, aUp N.2.1 a i.toNatClampNeg x, N.2.2)) (a := a) rfl hq aUp_row (fun _ _ => rfl) (fun _ _ => rfl), aE_int (Or.inl rfl)]
        dsimp only
        rw [aUp_self]
        exact h2
    · cases h
  case bastore =>
    cases ht
    obtain rfl := aq_l 1 hl rfl (by decide)
    rcases st with _ | ⟨_ | _ | _ | _ | _ | _ | _, st⟩ <;> try exact aq_n h rfl
    rcases st with _ | ⟨_ | _ | _ | _ | _ | _ | _, st⟩ <;> try exact aq_n h rfl
    rcases st with _ | ⟨_ | _ | _ | _ | _ | _ | _, st⟩ <;> try exact aq_n h rfl
    rename_i x i a
    have h : (match N.1[a]? with | some (k, n) => (bif Nat.beq k 21 && aIn i n then some ((st, N.1, aUp N.2.1 a i.toNatClampNeg x.toInt8.toInt32, N.2.2) : List Value × aV) else none) | none => none) = some q := h
    split at h
    · rename_i kk n hq
      obtain ⟨h1, rfl⟩ := aq_bif h
      simp only [Bool.and_eq_true, Nat.beq_eq] at h1
      obtain ⟨rfl, h1⟩ := h1
      have hg := aWl_get (dA := dA) (ad := ad) hq
      rw [aE_int (Or.inr rfl)] at hg
      refine va_bast hx hb hK hP hD hS a 1 hg rfl (aIn_vp h1) hd (fun H1 locs1 h1 h2 h3 => ?_)
      refine k H1 locs1 cells slots ⟨?_, ?_, h3⟩ rfl rfl
      · rw [aWl_set (N := N) (N' := (N.1, aUp N.2.1 a i.toNatClampNeg x.toInt8.toInt32, N.2.2)) (a := a) rfl hq aUp_row (fun _ _ => rfl) (fun _ _ => rfl), aE_int (Or.inr rfl)]
        dsimp only
        rw [aUp_self]
        exact h1
      · rw [aWl_set (N := N) (N' := (N.1, aUp N.2.1 a i.toNatClampNeg x.toInt8.toInt32, N.2.2)) (a := a) rfl hq aUp_row (fun _ _ => rfl) (fun _ _ => rfl), aE_int (Or.inr rfl)]
        dsimp only
        rw [aUp_self]
        exact h2
    · cases h
  case lastore =>
    cases ht
    obtain rfl := aq_l 1 hl rfl (by decide)
    rcases st with _ | ⟨_ | _ | _ | _ | _ | _ | _, st⟩ <;> try exact aq_n h rfl
    rcases st with _ | ⟨_ | _ | _ | _ | _ | _ | _, st⟩ <;> try exact aq_n h rfl
    rcases st with _ | ⟨_ | _ | _ | _ | _ | _ | _, st⟩ <;> try exact aq_n h rfl
    rename_i x i a
    have h : (match N.1[a]? with | some (k, n) => (bif Nat.beq k 22 && aIn i n then some ((st, N.1, N.2.1, aUp N.2.2.1 a i.toNatClampNeg x, N.2.2.2) : List Value × aV) else none) | none => none) = some q := h
    split at h
    · rename_i kk n hq
      obtain ⟨h1, rfl⟩ := aq_bif h
      simp only [Bool.and_eq_true, Nat.beq_eq] at h1
      obtain ⟨rfl, h1⟩ := h1
      have hg := aWl_get (dA := dA) (ad := ad) hq
      rw [aE_long] at hg
      refine va_last hx hb hK hP hD hS a 2 hg rfl (aIn_vp h1) hd (fun H1 locs1 h1 h2 h3 => ?_)
      refine k H1 locs1 cells slots ⟨?_, ?_, h3⟩ rfl rfl
      · rw [aWl_set (N := N) (N' := (N.1, N.2.1, aUp N.2.2.1 a i.toNatClampNeg x, N.2.2.2)) (a := a) rfl hq (fun _ _ => rfl) aUp_row (fun _ _ => rfl), aE_long]
        dsimp only
        rw [aUp_selfL]
        exact h1
      · rw [aWl_set (N := N) (N' := (N.1, N.2.1, aUp N.2.2.1 a i.toNatClampNeg x, N.2.2.2)) (a := a) rfl hq (fun _ _ => rfl) aUp_row (fun _ _ => rfl), aE_long]
        dsimp only
        rw [aUp_selfL]
        exact h2
    · cases h
  case aastore =>
    cases ht
    obtain rfl := aq_l 1 hl rfl (by decide)
    rcases st with _ | ⟨_ | _ | _ | _ | _ | _ | _, st⟩ <;> try exact aq_n h rfl
    rcases st with _ | ⟨_ | _ | _ | _ | _ | _ | _, st⟩ <;> try exact aq_n h rfl
    rcases st with _ | ⟨_ | _ | _ | _ | _ | _ | _, st⟩ <;> try exact aq_n h rfl
    rename_i v i a
    have h : (match N.1[a]?, N.1[v]? with | some (k, n), some (c, f) => (bif Nat.blt 22 k && Nat.blt k 26 && Nat.beq c (aElt k) && aIn i n then some ((st, N.1, N.2.1, N.2.2.1, aUp N.2.2.2 a i.toNatClampNeg (some v)) : List Value × aV) else none) | _, _ => none) = some q := h
    split at h
    · rename_i kd n c2 f hq hv
      obtain ⟨h1, rfl⟩ := aq_bif h
      simp only [Bool.and_eq_true, Nat.blt_eq, Nat.beq_eq] at h1
      obtain ⟨⟨⟨h1, h2⟩, h3⟩, h4⟩ := h1
      have hg := aWl_get (dA := dA) (ad := ad) hq
      rw [aE_ref h1] at hg
      have hgv := aWl_get (dA := dA) (ad := ad) hv
      have kk : ∀ (H1 : Heap) (locs1 : List Loc), va_P D vwCl ((aWl dA ad N).set a (ad a, .inl (dA kd, n, .inr (.inr (.inr (.inr (va_up (fun j => (N.2.2.2 a j).map ad) i.toNatClampNeg (some (ad v))))))))) H1 → va_D A ((aWl dA ad N).set a (ad a, .inl (dA kd, n, .inr (.inr (.inr (.inr (va_up (fun j => (N.2.2.2 a j).map ad) i.toNatClampNeg (some (ad v))))))))) → va_S A s.heap H1 locs1 → W p l e R s m args below meth c H1 locs1 cells slots Q (F0 m (pc + 1) rl (st.map (aTv ad))) := by
        intro H1 locs1 q1 q2 q3
        refine k H1 locs1 cells slots ⟨?_, ?_, q3⟩ rfl rfl
        · rw [aWl_set (N := N) (N' := (N.1, N.2.1, N.2.2.1, aUp N.2.2.2 a i.toNatClampNeg (some v))) (a := a) rfl hq (fun _ _ => rfl) (fun _ _ => rfl) aUp_row, aE_ref h1, aUp_selfR]
          exact q1
        · rw [aWl_set (N := N) (N' := (N.1, N.2.1, N.2.2.1, aUp N.2.2.2 a i.toNatClampNeg (some v))) (a := a) rfl hq (fun _ _ => rfl) (fun _ _ => rfl) aUp_row, aE_ref h1, aUp_selfR]
          exact q2
      have hc : kd = 23 ∨ kd = 24 ∨ kd = 25 := by omega
      rcases hc with rfl | rfl | rfl
      · obtain rfl : c2 = 3 := h3
        rw [aE_obj (by decide)] at hgv
        exact va_astq hx hb hK hP hD hS a 3 v 3 (r := (RX4, TX4, 6)) hg rfl hgv rfl (aIn_vp h4) hd kk
      · obtain rfl : c2 = 1 := h3
        rw [aE_obj (by decide)] at hgv
        exact va_astq hx hb hK hP hD hS a 4 v 1 (r := (RX1, TX1, 8)) hg rfl hgv rfl (aIn_vp h4) hd kk
      · obtain rfl : c2 = 7 := h3
        rw [aE_obj (by decide)] at hgv
        exact va_astq hx hb hK hP hD hS a 5 v 7 (r := (RX8, TX8, 3)) hg rfl hgv rfl (aIn_vp h4) hd kk
    · cases h
  case arraylength =>
    cases ht
    obtain rfl := aq_l 1 hl rfl (by decide)
    rcases st with _ | ⟨_ | _ | _ | _ | _ | _ | _, st⟩ <;> try exact aq_n h rfl
    rename_i a
    have h : (match N.1[a]? with | some (k, n) => (bif Nat.blt 19 k && Nat.blt k 27 then some (Value.int (nI n) :: st, N) else none) | none => none) = some q := h
    split at h
    · rename_i kd n hq
      obtain ⟨h1, rfl⟩ := aq_bif h
      simp only [Bool.and_eq_true, Nat.blt_eq] at h1
      have hg := aWl_get (dA := dA) (ad := ad) hq
      have kk := k H locs cells slots ⟨hP, hD, hS⟩ rfl rfl
      have hc : kd = 20 ∨ kd = 21 ∨ kd = 22 ∨ kd = 23 ∨ kd = 24 ∨ kd = 25 ∨ kd = 26 := by omega
      rcases hc with rfl | rfl | rfl | rfl | rfl | rfl | rfl
      · exact va_alen hx hb hK hP a 0 hg (ty := .int) rfl rfl hd kk
      · exact va_alen hx hb hK hP a 1 hg (ty := .byte) rfl rfl hd kk
      · exact va_alen hx hb hK hP a 2 hg (ty := .long) rfl rfl hd kk
      · exact va_alen hx hb hK hP a 3 hg (ty := .object RX4) rfl rfl hd kk
      · exact va_alen hx hb hK hP a 4 hg (ty := .object RX1) rfl rfl hd kk
      · exact va_alen hx hb hK hP a 5 hg (ty := .object RX8) rfl rfl hd kk
      · exact va_alen hx hb hK hP a 6 hg (ty := .array .int) rfl rfl hd kk
    · cases h
  case new i =>
    simp only [aTr] at ht
    obtain ⟨r, hr, rfl⟩ := aq_m ht
    obtain rfl := aq_l 3 hl rfl (by decide)
    have h : (bif al && Nat.blt r.2.2.1 12 then some (Value.ref N.1.length :: st, aNew N (r.2.2.1, aNF r.2.2.1)) else none) = some q := h
    obtain ⟨h1, rfl⟩ := aq_bif h
    simp only [Bool.and_eq_true, Nat.blt_eq] at h1
    obtain ⟨b1, b2⟩ := aCr_at hr
    obtain ⟨f1, f2, f3, f4, f5, f6, f7, f8⟩ := aClF_all b1
    have hz0 := hz h1.1
    have hz : (∀ k, k < 1000000 → ad k = ad 0 + k) ∧ s.heap.size + cells = ad 0 + N.1.length ∧ (∀ q, A q → ad 0 ≤ q) ∧ N.1.length < 1000000 := ⟨hz0.1, hz0.2.1, hz0.2.2.1, by have := hz0.2.2.2.1; dsimp only at this; rw [aLen_new] at this; omega⟩
    dsimp only at hR
    rw [aLen_new, csz_new, f5] at hR
    dsimp only at hR
    refine va_new hx hb hts f2 (aTyf r.2.2.1) f3 hown (hts _ b2) (hts _ f7) (hts _ f8) hK hP hD hS hA f1 (fs := (List.range (aCl r.2.2.1).2.2).map (aFv ad (aNew N (r.2.2.1, aNF r.2.2.1)) r.2.2.1 N.1.length)) (fun j hj => ?_) (by omega) (by omega) hd (fun z H1 h3 h4 h5 => ?_)
    · unfold vp_V
      rw [List.getD, aFs_at hj]
      have hf := f6 j hj
      unfold aFko at hf
      unfold aFv
      split at hf <;> rename_i hk <;> first | (cases hf; done) | skip
      · rw [of_decide_eq_true hf]; simp only [hk, aNew, if_true]; rfl
      · rw [of_decide_eq_true hf]; simp only [hk, aNew, if_true]; rfl
      · simp only [hk, aNew, if_true]
        cases hty : aTyf r.2.2.1 j <;> rw [hty] at hf <;> first | rfl | (cases hf; done)
    · intro T hT X
      obtain rfl := aNew_at hz h3 h4 hT X
      have e1 : aWl dA ad (aNew N (r.2.2.1, aNF r.2.2.1)) = aWl dA ad N ++ [(ad N.1.length, .inr (r.2.2.1, (List.range (aCl r.2.2.1).2.2).map (aFv ad (aNew N (r.2.2.1, aNF r.2.2.1)) r.2.2.1 N.1.length)))] := by rw [aWl_new, aE_obj b1, f5]
      exact k H1 locs (cells + 1) (slots + (aCl r.2.2.1).2.2) ⟨by rw [e1]; exact h3, by rw [e1]; exact h4, h5⟩ (by rw [aLen_new]; omega) (by rw [csz_new, f5]; dsimp only; omega) T hT X
  case newarray t =>
    cases ht
    obtain rfl := aq_l 2 hl rfl (by decide)
    rcases st with _ | ⟨_ | _ | _ | _ | _ | _ | _, st⟩ <;> try exact aq_n h rfl
    rename_i n
    cases t
    case int =>
      have h : (bif al && !(decide (n < 0)) && Nat.blt 20 23 && Nat.ble n.toNatClampNeg 60000 then some (Value.ref N.1.length :: st, aNew N (20, n.toNatClampNeg)) else none) = some q := h
      obtain ⟨h1, rfl⟩ := aq_bif h
      simp only [Bool.and_eq_true, Bool.not_eq_true', decide_eq_false_iff_not, Nat.ble_eq] at h1
      obtain ⟨⟨⟨g1, g2⟩, -⟩, g3⟩ := h1
      have hz0 := hz g1
      have hz : (∀ k, k < 1000000 → ad k = ad 0 + k) ∧ s.heap.size + cells = ad 0 + N.1.length ∧ (∀ q, A q → ad 0 ≤ q) ∧ N.1.length < 1000000 := ⟨hz0.1, hz0.2.1, hz0.2.2.1, by have := hz0.2.2.2.1; dsimp only at this; rw [aLen_new] at this; omega⟩
      dsimp only at hR
      rw [aLen_new, csz_new] at hR
      dsimp only at hR
      refine va_newa (atype := .int) hx hb (hts _ aAc_int) (ty := .int) rfl hK hP hD hS hA (a0 := (n.toNatClampNeg, .inl (fun _ => 0))) (fun cA => rfl) g2 rfl (by simp only [componentBytes]; omega) (by omega) (by omega) hd (fun z cA H1 h2 h3 h4 h5 => ?_)
      intro T hT X
      obtain rfl := aNew_at hz h3 h4 hT X
      have ec : cA = dA 20 := by
        have q1 := (h2.2 7 (cA, .int) rfl).2
        have q2 := (hK.2 0 (dA 20, .int) rfl).2
        exact Option.some.inj (q1.symm.trans q2)
      subst ec
      have e1 : aWl dA ad (aNew N (20, n.toNatClampNeg)) = aWl dA ad N ++ [(ad N.1.length, .inl (dA 20, n.toNatClampNeg, .inl (fun _ => 0)))] := by
        rw [aWl_new, aE_int (Or.inl rfl)]
        have e2 : (aNew N (20, n.toNatClampNeg)).2.1 N.1.length = fun _ => 0 := by funext j; simp only [aNew, if_true]
        rw [e2]
      exact k H1 locs (cells + 1) (slots + n.toNatClampNeg) ⟨by rw [e1]; exact h3, by rw [e1]; exact h4, h5⟩ (by rw [aLen_new]; omega) (by rw [csz_new]; dsimp only; omega) T hT X
    case byte =>
      have h : (bif al && !(decide (n < 0)) && Nat.blt 21 23 && Nat.ble n.toNatClampNeg 60000 then some (Value.ref N.1.length :: st, aNew N (21, n.toNatClampNeg)) else none) = some q := h
      obtain ⟨h1, rfl⟩ := aq_bif h
      simp only [Bool.and_eq_true, Bool.not_eq_true', decide_eq_false_iff_not, Nat.ble_eq] at h1
      obtain ⟨⟨⟨g1, g2⟩, -⟩, g3⟩ := h1
      have hz0 := hz g1
      have hz : (∀ k, k < 1000000 → ad k = ad 0 + k) ∧ s.heap.size + cells = ad 0 + N.1.length ∧ (∀ q, A q → ad 0 ≤ q) ∧ N.1.length < 1000000 := ⟨hz0.1, hz0.2.1, hz0.2.2.1, by have := hz0.2.2.2.1; dsimp only at this; rw [aLen_new] at this; omega⟩
      dsimp only at hR
      rw [aLen_new, csz_new] at hR
      dsimp only at hR
      refine va_newa (atype := .byte) hx hb (hts _ aAc_byte) (ty := .byte) rfl hK hP hD hS hA (a0 := (n.toNatClampNeg, .inl (fun _ => 0))) (fun cA => rfl) g2 rfl (by simp only [componentBytes]; omega) (by omega) (by omega) hd (fun z cA H1 h2 h3 h4 h5 => ?_)
      intro T hT X
      obtain rfl := aNew_at hz h3 h4 hT X
      have ec : cA = dA 21 := by
        have q1 := (h2.2 7 (cA, .byte) rfl).2
        have q2 := (hK.2 1 (dA 21, .byte) rfl).2
        exact Option.some.inj (q1.symm.trans q2)
      subst ec
      have e1 : aWl dA ad (aNew N (21, n.toNatClampNeg)) = aWl dA ad N ++ [(ad N.1.length, .inl (dA 21, n.toNatClampNeg, .inl (fun _ => 0)))] := by
        rw [aWl_new, aE_int (Or.inr rfl)]
        have e2 : (aNew N (21, n.toNatClampNeg)).2.1 N.1.length = fun _ => 0 := by funext j; simp only [aNew, if_true]
        rw [e2]
      exact k H1 locs (cells + 1) (slots + n.toNatClampNeg) ⟨by rw [e1]; exact h3, by rw [e1]; exact h4, h5⟩ (by rw [aLen_new]; omega) (by rw [csz_new]; dsimp only; omega) T hT X
    case long =>
      have h : (bif al && !(decide (n < 0)) && Nat.blt 22 23 && Nat.ble n.toNatClampNeg 60000 then some (Value.ref N.1.length :: st, aNew N (22, n.toNatClampNeg)) else none) = some q := h
      obtain ⟨h1, rfl⟩ := aq_bif h
      simp only [Bool.and_eq_true, Bool.not_eq_true', decide_eq_false_iff_not, Nat.ble_eq] at h1
      obtain ⟨⟨⟨g1, g2⟩, -⟩, g3⟩ := h1
      have hz0 := hz g1
      have hz : (∀ k, k < 1000000 → ad k = ad 0 + k) ∧ s.heap.size + cells = ad 0 + N.1.length ∧ (∀ q, A q → ad 0 ≤ q) ∧ N.1.length < 1000000 := ⟨hz0.1, hz0.2.1, hz0.2.2.1, by have := hz0.2.2.2.1; dsimp only at this; rw [aLen_new] at this; omega⟩
      dsimp only at hR
      rw [aLen_new, csz_new] at hR
      dsimp only at hR
      refine va_newa (atype := .long) hx hb (hts _ aAc_long) (ty := .long) rfl hK hP hD hS hA (a0 := (n.toNatClampNeg, .inr (.inl (fun _ => 0)))) (fun cA => rfl) g2 rfl (by simp only [componentBytes]; omega) (by omega) (by omega) hd (fun z cA H1 h2 h3 h4 h5 => ?_)
      intro T hT X
      obtain rfl := aNew_at hz h3 h4 hT X
      have ec : cA = dA 22 := by
        have q1 := (h2.2 7 (cA, .long) rfl).2
        have q2 := (hK.2 2 (dA 22, .long) rfl).2
        exact Option.some.inj (q1.symm.trans q2)
      subst ec
      have e1 : aWl dA ad (aNew N (22, n.toNatClampNeg)) = aWl dA ad N ++ [(ad N.1.length, .inl (dA 22, n.toNatClampNeg, .inr (.inl (fun _ => 0))))] := by
        rw [aWl_new, aE_long]
        have e2 : (aNew N (22, n.toNatClampNeg)).2.2.1 N.1.length = fun _ => 0 := by funext j; simp only [aNew, if_true]
        rw [e2]
      exact k H1 locs (cells + 1) (slots + n.toNatClampNeg) ⟨by rw [e1]; exact h3, by rw [e1]; exact h4, h5⟩ (by rw [aLen_new]; omega) (by rw [csz_new]; dsimp only; omega) T hT X
    all_goals
      obtain ⟨h1, -⟩ := aq_bif h
      simp [aKind, Nat.blt] at h1
  case anewarray i =>
    simp only [aTr] at ht
    obtain ⟨r, hr, ht⟩ := aq_b ht
    obtain rfl := aq_l 3 hl rfl (by decide)
    obtain ⟨b1, b2⟩ := aCr_at hr
    have hc : (r.2.2.1 = 3 ∧ op = .anewarray 23) ∨ (r.2.2.1 = 1 ∧ op = .anewarray 24) ∨ (r.2.2.1 = 7 ∧ op = .anewarray 25) := by
      cases h3 : Nat.beq r.2.2.1 3 <;> cases h1 : Nat.beq r.2.2.1 1 <;> cases h7 : Nat.beq r.2.2.1 7 <;> rw [h3, h1, h7] at ht <;> cases ht <;> simp only [Nat.beq_eq] at h3 h1 h7 <;> simp [h3, h1, h7]
    rcases hc with ⟨hc, rfl⟩ | ⟨hc, rfl⟩ | ⟨hc, rfl⟩ <;> rw [hc] at b2 <;> (rcases st with _ | ⟨_ | _ | _ | _ | _ | _ | _, st⟩ <;> try exact aq_n h rfl) <;> rename_i n
    · have h : (bif al && !(decide (n < 0)) && Nat.blt 22 23 && Nat.blt 23 26 && Nat.ble n.toNatClampNeg 60000 then some (Value.ref N.1.length :: st, aNew N (23, n.toNatClampNeg)) else none) = some q := h
      obtain ⟨h1, rfl⟩ := aq_bif h
      simp only [Bool.and_eq_true, Bool.not_eq_true', decide_eq_false_iff_not, Nat.ble_eq] at h1
      obtain ⟨⟨⟨⟨g1, g2⟩, -⟩, -⟩, g3⟩ := h1
      have hz0 := hz g1
      have hz : (∀ k, k < 1000000 → ad k = ad 0 + k) ∧ s.heap.size + cells = ad 0 + N.1.length ∧ (∀ q, A q → ad 0 ≤ q) ∧ N.1.length < 1000000 := ⟨hz0.1, hz0.2.1, hz0.2.2.1, by have := hz0.2.2.2.1; dsimp only at this; rw [aLen_new] at this; omega⟩
      dsimp only at hR
      rw [aLen_new, csz_new] at hR
      dsimp only at hR
      refine va_newq hx hb hown (hts _ b2) (hE.2.1.1) hK hP hD hS hA g2 rfl (by omega) (by omega) (by omega) hd (fun z cA H1 h2 h3 h4 h5 => ?_)
      intro T hT X
      obtain rfl := aNew_at hz h3 h4 hT X
      have ec : cA = dA 23 := by
        obtain ⟨_, _, _, _, _, q1⟩ := (h2.2 7 (cA, .object RX4) rfl).2
        obtain ⟨_, _, _, _, _, q2⟩ := (hK.2 3 (dA 23, .object RX4) rfl).2
        exact Option.some.inj (q1.symm.trans q2)
      subst ec
      have e1 : aWl dA ad (aNew N (23, n.toNatClampNeg)) = aWl dA ad N ++ [(ad N.1.length, .inl (dA 23, n.toNatClampNeg, .inr (.inr (.inr (.inr (fun _ => none))))))] := by
        rw [aWl_new, aE_ref (by decide)]
        have e2 : (fun j => ((aNew N (23, n.toNatClampNeg)).2.2.2 N.1.length j).map ad) = fun _ => none := by funext j; simp only [aNew, if_true]; rfl
        rw [e2]
      exact k H1 locs (cells + 1) (slots + n.toNatClampNeg) ⟨by rw [e1]; exact h3, by rw [e1]; exact h4, h5⟩ (by rw [aLen_new]; omega) (by rw [csz_new]; dsimp only; omega) T hT X
    · have h : (bif al && !(decide (n < 0)) && Nat.blt 22 24 && Nat.blt 24 26 && Nat.ble n.toNatClampNeg 60000 then some (Value.ref N.1.length :: st, aNew N (24, n.toNatClampNeg)) else none) = some q := h
      obtain ⟨h1, rfl⟩ := aq_bif h
      simp only [Bool.and_eq_true, Bool.not_eq_true', decide_eq_false_iff_not, Nat.ble_eq] at h1
      obtain ⟨⟨⟨⟨g1, g2⟩, -⟩, -⟩, g3⟩ := h1
      have hz0 := hz g1
      have hz : (∀ k, k < 1000000 → ad k = ad 0 + k) ∧ s.heap.size + cells = ad 0 + N.1.length ∧ (∀ q, A q → ad 0 ≤ q) ∧ N.1.length < 1000000 := ⟨hz0.1, hz0.2.1, hz0.2.2.1, by have := hz0.2.2.2.1; dsimp only at this; rw [aLen_new] at this; omega⟩
      dsimp only at hR
      rw [aLen_new, csz_new] at hR
      dsimp only at hR
      refine va_newq hx hb hown (hts _ b2) (hE.2.1.2.1) hK hP hD hS hA g2 rfl (by omega) (by omega) (by omega) hd (fun z cA H1 h2 h3 h4 h5 => ?_)
      intro T hT X
      obtain rfl := aNew_at hz h3 h4 hT X
      have ec : cA = dA 24 := by
        obtain ⟨_, _, _, _, _, q1⟩ := (h2.2 7 (cA, .object RX1) rfl).2
        obtain ⟨_, _, _, _, _, q2⟩ := (hK.2 4 (dA 24, .object RX1) rfl).2
        exact Option.some.inj (q1.symm.trans q2)
      subst ec
      have e1 : aWl dA ad (aNew N (24, n.toNatClampNeg)) = aWl dA ad N ++ [(ad N.1.length, .inl (dA 24, n.toNatClampNeg, .inr (.inr (.inr (.inr (fun _ => none))))))] := by
        rw [aWl_new, aE_ref (by decide)]
        have e2 : (fun j => ((aNew N (24, n.toNatClampNeg)).2.2.2 N.1.length j).map ad) = fun _ => none := by funext j; simp only [aNew, if_true]; rfl
        rw [e2]
      exact k H1 locs (cells + 1) (slots + n.toNatClampNeg) ⟨by rw [e1]; exact h3, by rw [e1]; exact h4, h5⟩ (by rw [aLen_new]; omega) (by rw [csz_new]; dsimp only; omega) T hT X
    · have h : (bif al && !(decide (n < 0)) && Nat.blt 22 25 && Nat.blt 25 26 && Nat.ble n.toNatClampNeg 60000 then some (Value.ref N.1.length :: st, aNew N (25, n.toNatClampNeg)) else none) = some q := h
      obtain ⟨h1, rfl⟩ := aq_bif h
      simp only [Bool.and_eq_true, Bool.not_eq_true', decide_eq_false_iff_not, Nat.ble_eq] at h1
      obtain ⟨⟨⟨⟨g1, g2⟩, -⟩, -⟩, g3⟩ := h1
      have hz0 := hz g1
      have hz : (∀ k, k < 1000000 → ad k = ad 0 + k) ∧ s.heap.size + cells = ad 0 + N.1.length ∧ (∀ q, A q → ad 0 ≤ q) ∧ N.1.length < 1000000 := ⟨hz0.1, hz0.2.1, hz0.2.2.1, by have := hz0.2.2.2.1; dsimp only at this; rw [aLen_new] at this; omega⟩
      dsimp only at hR
      rw [aLen_new, csz_new] at hR
      dsimp only at hR
      refine va_newq hx hb hown (hts _ b2) (hE.2.1.2.2.1) hK hP hD hS hA g2 rfl (by omega) (by omega) (by omega) hd (fun z cA H1 h2 h3 h4 h5 => ?_)
      intro T hT X
      obtain rfl := aNew_at hz h3 h4 hT X
      have ec : cA = dA 25 := by
        obtain ⟨_, _, _, _, _, q1⟩ := (h2.2 7 (cA, .object RX8) rfl).2
        obtain ⟨_, _, _, _, _, q2⟩ := (hK.2 5 (dA 25, .object RX8) rfl).2
        exact Option.some.inj (q1.symm.trans q2)
      subst ec
      have e1 : aWl dA ad (aNew N (25, n.toNatClampNeg)) = aWl dA ad N ++ [(ad N.1.length, .inl (dA 25, n.toNatClampNeg, .inr (.inr (.inr (.inr (fun _ => none))))))] := by
        rw [aWl_new, aE_ref (by decide)]
        have e2 : (fun j => ((aNew N (25, n.toNatClampNeg)).2.2.2 N.1.length j).map ad) = fun _ => none := by funext j; simp only [aNew, if_true]; rfl
        rw [e2]
      exact k H1 locs (cells + 1) (slots + n.toNatClampNeg) ⟨by rw [e1]; exact h3, by rw [e1]; exact h4, h5⟩ (by rw [aLen_new]; omega) (by rw [csz_new]; dsimp only; omega) T hT X
  case multianewarray i d =>
    simp only [aTr] at ht
    obtain ⟨hq3, rfl⟩ := aq_c ht
    simp only [Bool.and_eq_true, Nat.beq_eq] at hq3
    obtain ⟨⟨rfl, rfl⟩, rfl⟩ := hq3
    obtain rfl := aq_l 4 hl rfl (by decide)
    rcases st with _ | ⟨_ | _ | _ | _ | _ | _ | _, st⟩ <;> try exact aq_n h rfl
    rcases st with _ | ⟨_ | _ | _ | _ | _ | _ | _, st⟩ <;> try exact aq_n h rfl
    rename_i k0 n0
    obtain ⟨g, rfl⟩ := aq_bif h
    simp only [Bool.and_eq_true, Bool.not_eq_true', decide_eq_false_iff_not, Nat.ble_eq] at g
    obtain ⟨⟨⟨⟨g1, g2⟩, g3⟩, g4⟩, g5⟩ := g
    generalize hn : n0.toNatClampNeg = n at *
    generalize hk : k0.toNatClampNeg = kk at *
    obtain ⟨z1, z2, z3, z4, z5⟩ := hz g1
    obtain ⟨b1, b2, b3, b4⟩ := aNews_at (N := aNew N (26, n)) (e := (20, kk)) n
    rw [aLen_new] at b1
    rw [csz_new] at b2
    dsimp only at z4 hR b2
    have hlen : (aNews (aNew N (26, n)) (20, kk) n).1.length = N.1.length + 1 + n := b1
    have hcsz : csz ((aNews (aNew N (26, n)) (20, kk) n).1, (aNews (aNew N (26, n)) (20, kk) n).2.1, (aNews (aNew N (26, n)) (20, kk) n).2.2.1, fun b j => if b = N.1.length ∧ j < n then some (N.1.length + 1 + j) else (aNews (aNew N (26, n)) (20, kk) n).2.2.2 b j) = csz N + n + n * kk := b2
    rw [hlen] at z4
    rw [hlen, hcsz] at hR
    intro T hT X
    have hsz : H.size = ad 0 + N.1.length := by
      have hb2 : T.heap.size ≤ s.heap.size + cells := X.same.2.2.1
      rw [hT] at hb2
      have hlast := aWl_get (dA := dA) (ad := ad) (N := N) (k := N.1.length - 1) (e := N.1.getD (N.1.length - 1) (0, 0)) (by simp [List.getD, List.getElem?_eq_getElem (show N.1.length - 1 < N.1.length by omega)])
      have hlt : ad (N.1.length - 1) < H.size := (hP _ _ hlast).lt
      rw [z1 _ (by omega)] at hlt
      omega
    obtain ⟨vm1, cA, comp, -, fA, fC, hO, -, X1, step⟩ := X.multianewarray2F hx (ty := .int) hown (hts _ aCl_Nets18) hE.2.1.2.2.2 (hts _ aAc_int) (g := F0 m pc rl (.int k0 :: .int n0 :: st.map (aTv ad))) rfl (by rw [hb]; exact hd) rfl g2 g3 (by rw [hn]; omega) (by rw [hk]; show kk * 4 ≤ _; omega) (by rw [hk]; omega) rfl rfl (by rw [hn]; omega) (by rw [hn, hk]; omega)
    rw [hn, hk] at X1 step
    have ecA : cA = dA 26 := Option.some.inj (fA.symm.trans (hK.2 6 (dA 26, .array .int) rfl).2)
    have ecC : comp = dA 20 := Option.some.inj (fC.symm.trans (hK.2 0 (dA 20, .int) rfl).2)
    subst ecA
    subst ecC
    generalize hF : Jvm.Free.Multi.fill (T.setVm vm1) (dA 26) (dA 20) n kk (defaultValue .int) n = F at X1 step
    have hTh : (T.setVm vm1).heap = H := hT
    obtain ⟨f1, f2, -, -⟩ := Jvm.Free.Multi.fill_facts (T.setVm vm1) (dA 26) (dA 20) n kk (defaultValue .int) n
    rw [hF, hTh] at f1 f2
    have hold : ∀ x : Nat, x < H.size → F.heap[x]? = H[x]? := fun x hx2 => by
      have := Jvm.Free.Multi.fill_old (T.setVm vm1) (dA 26) (dA 20) n kk (defaultValue .int) (a := x) (by rw [hTh]; exact hx2) n
      rw [hF, hTh] at this
      exact this
    have hrow : ∀ j : Nat, j < n → F.heap[H.size + 1 + j]? = some (vp_cell (dA 20) (kk, .inl (fun _ => 0))) := fun j hj => by
      have := Jvm.Free.Multi.fill_inner (T.setVm vm1) (dA 26) (dA 20) n kk (defaultValue .int) n j hj
      rw [hF, hTh] at this
      rw [this]
      show some ({ cls := dA 20, slots := Array.replicate kk (.int 0), vm := .none } : Cell) = _
      rw [arrV_new]
      rfl
    rw [vr_out] at f2
    have hent : ∀ i, i < N.1.length + 1 + n → va_at D vwCl (ad i, aE dA ad ((aNews (aNew N (26, n)) (20, kk) n).1, (aNews (aNew N (26, n)) (20, kk) n).2.1, (aNews (aNew N (26, n)) (20, kk) n).2.2.1, fun b j => if b = N.1.length ∧ j < n then some (N.1.length + 1 + j) else (aNews (aNew N (26, n)) (20, kk) n).2.2.2 b j) i ((aNews (aNew N (26, n)) (20, kk) n).1.getD i (0, 0))) F.heap := by
      intro i hi2
      by_cases hc1 : i < N.1.length
      · obtain ⟨a1, a2, a3, a4⟩ := b3 i (by rw [aLen_new]; omega)
        have hne : i ≠ N.1.length := by omega
        have a5 : (aNew N (26, n)).1.getD i (0, 0) = N.1.getD i (0, 0) := by
          show (N.1 ++ [(26, n)]).getD i (0, 0) = _
          simp only [List.getD, List.getElem?_append_left hc1]
        rw [a1, a5, aE_congr (N := N) (by show (aNews _ _ _).2.1 i = _; rw [a2]; funext z; simp only [aNew, hne, if_false]) (by show (aNews _ _ _).2.2.1 i = _; rw [a3]; funext z; simp only [aNew, hne, if_false]) (by funext z; show (if i = N.1.length ∧ z < n then _ else (aNews _ _ _).2.2.2 i z) = _; rw [if_neg (fun q => hne q.1), a4]; simp only [aNew, hne, if_false])]
        have hg := aWl_get (dA := dA) (ad := ad) (N := N) (k := i) (e := N.1.getD i (0, 0)) (by simp [List.getD, List.getElem?_eq_getElem hc1])
        exact (hP i _ hg).kept (hold _ ((hP i _ hg).lt))
      · by_cases hc2 : i = N.1.length
        · subst hc2
          obtain ⟨a1, -, -, -⟩ := b3 N.1.length (by rw [aLen_new]; omega)
          have a5 : (aNew N (26, n)).1.getD N.1.length (0, 0) = (26, n) := by
            show (N.1 ++ [(26, n)]).getD N.1.length (0, 0) = _
            simp [List.getD]
          rw [a1, a5, aE_ref (by decide)]
          show F.heap[ad N.1.length]? = some (vp_cell (dA 26) (n, .inr (.inr (.inr (.inr (fun j => (if N.1.length = N.1.length ∧ j < n then some (N.1.length + 1 + j) else (aNews (aNew N (26, n)) (20, kk) n).2.2.2 N.1.length j).map ad))))))
          rw [z1 _ (by omega), ← hsz, f2, vp_cell_q]
          obtain ⟨-, -, -, a4⟩ := b3 N.1.length (by rw [aLen_new]; omega)
          refine congrArg some (congrArg (arrV (dA 26) n) (funext fun j => ?_))
          by_cases hj : j < n
          · rw [if_pos hj, if_pos ⟨rfl, hj⟩]
            show va_rf (some (H.size + 1 + j)) = va_rf (some (ad (N.1.length + 1 + j)))
            rw [z1 _ (by omega), hsz]
            congr 2
            omega
          · rw [if_neg hj, if_neg (fun q => hj q.2), a4]
            simp only [aNew, if_true]
            rfl
        · obtain ⟨j, rfl⟩ : ∃ j, i = N.1.length + 1 + j := ⟨i - (N.1.length + 1), by omega⟩
          obtain ⟨a1, a2⟩ := b4 j (by omega)
          rw [aLen_new] at a1 a2
          rw [a1, aE_int (Or.inl rfl)]
          show F.heap[ad (N.1.length + 1 + j)]? = some (vp_cell (dA 20) (kk, .inl ((aNews (aNew N (26, n)) (20, kk) n).2.1 (N.1.length + 1 + j))))
          rw [a2, z1 _ (by omega), show ad 0 + (N.1.length + 1 + j) = H.size + 1 + j by omega]
          exact hrow j (by omega)
    have hPf : va_P D vwCl (aWl dA ad ((aNews (aNew N (26, n)) (20, kk) n).1, (aNews (aNew N (26, n)) (20, kk) n).2.1, (aNews (aNew N (26, n)) (20, kk) n).2.2.1, fun b j => if b = N.1.length ∧ j < n then some (N.1.length + 1 + j) else (aNews (aNew N (26, n)) (20, kk) n).2.2.2 b j)) F.heap := by
      intro i x hx2
      obtain ⟨i1, rfl⟩ := aWl_at hx2
      exact hent i (by rw [← hlen]; exact i1)
    have hDf : va_D A (aWl dA ad ((aNews (aNew N (26, n)) (20, kk) n).1, (aNews (aNew N (26, n)) (20, kk) n).2.1, (aNews (aNew N (26, n)) (20, kk) n).2.2.1, fun b j => if b = N.1.length ∧ j < n then some (N.1.length + 1 + j) else (aNews (aNew N (26, n)) (20, kk) n).2.2.2 b j)) := by
      refine ⟨fun i j x y hi2 hj2 hxy => ?_, fun i x hx2 => ?_⟩
      · obtain ⟨i1, rfl⟩ := aWl_at hi2
        obtain ⟨j1, rfl⟩ := aWl_at hj2
        have i1 : i < N.1.length + 1 + n := by rw [← hlen]; exact i1
        have j1 : j < N.1.length + 1 + n := by rw [← hlen]; exact j1
        have hxy : ad i = ad j := hxy
        rw [z1 i (by omega), z1 j (by omega)] at hxy
        omega
      · obtain ⟨i1, rfl⟩ := aWl_at hx2
        have i1 : i < N.1.length + 1 + n := by rw [← hlen]; exact i1
        show A (ad i)
        by_cases hc1 : i < N.1.length
        · have hg := aWl_get (dA := dA) (ad := ad) (N := N) (k := i) (e := N.1.getD i (0, 0)) (by simp [List.getD, List.getElem?_eq_getElem hc1])
          exact hD.2 i _ hg
        · refine hA _ ?_
          have := hS.1
          rw [z1 i (by omega)]
          omega
    have hSf : va_S A s.heap F.heap locs := ⟨by rw [f1]; have := hS.1; omega, fun x h1 h2 => (hold x (Nat.lt_of_lt_of_le h1 hS.1)).trans (hS.2.1 x h1 h2), hS.2.2⟩
    obtain ⟨t2, a1, b1⟩ := k F.heap locs (cells + 1 + n) (slots + n + n * kk) ⟨hPf, hDf, hSf⟩ (by dsimp only; rw [hlen]; omega) (by dsimp only; rw [hcsz]; omega) F rfl X1
    refine ⟨t2, step t2 ?_, b1⟩
    have e9 : T.heap.size = ad N.1.length := by rw [hT, hsz]; exact (z1 _ (by omega)).symm
    rw [e9]
    exact a1
  case getstatic i =>
    simp only [aTr] at ht
    obtain ⟨r, hr, rfl⟩ := aq_m ht
    exact aq_n h rfl
  case invokevirtual i =>
    simp only [aTr] at ht
    obtain ⟨r, hr, rfl⟩ := aq_m ht
    exact aq_n h rfl
  case invokestatic i =>
    simp only [aTr] at ht
    obtain ⟨r, hr, rfl⟩ := aq_m ht
    exact aq_n h rfl
  case invokespecial i =>
    simp only [aTr] at ht
    obtain ⟨r, hr, rfl⟩ := aq_m ht
    exact aq_n h rfl
  case ldc_w i =>
    simp only [aTr] at ht
    obtain ⟨r, hr, rfl⟩ := aq_m ht
    exact aq_n h rfl
  case ldc2_w i =>
    simp only [aTr] at ht
    obtain ⟨r, hr, rfl⟩ := aq_m ht
    exact aq_n h rfl
  case ldc i =>
    simp only [aTr] at ht
    split at ht
    · cases ht
      exact aq_n h rfl
    · obtain ⟨r, hr, rfl⟩ := aq_m ht
      exact aq_n h rfl
  case lookupswitch d ps =>
    simp only [aTr] at ht
    obtain ⟨-, rfl⟩ := aq_c ht
    exact aq_n h rfl
  case iinc i n =>
    simp only [aTr] at ht
    obtain ⟨-, rfl⟩ := aq_c ht
    exact aq_n h rfl
  case iconst n =>
    simp only [aTr] at ht
    obtain ⟨-, rfl⟩ := aq_c ht
    exact aq_n h rfl
  case bipush n =>
    simp only [aTr] at ht
    obtain ⟨-, rfl⟩ := aq_c ht
    exact aq_n h rfl
  case sipush n =>
    simp only [aTr] at ht
    obtain ⟨-, rfl⟩ := aq_c ht
    exact aq_n h rfl
  case lconst n =>
    simp only [aTr] at ht
    obtain ⟨-, rfl⟩ := aq_c ht
    exact aq_n h rfl
  case jsr_w n =>
    cases ht
  all_goals (cases ht; exact aq_n h rfl)
end AMEM
