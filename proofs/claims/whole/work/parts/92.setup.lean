/-! the law from its entry, over what the two classes keep between them -/
set_option maxRecDepth 100000 in
theorem tb_ao4 : Jvm.Cond.arrayOver (.object RX4) ∈ lw_tbl := List.mem_append_right _ (List.mem_of_getElem? (i := 53) (by decide +kernel))
set_option maxRecDepth 100000 in
theorem tb_ao1 : Jvm.Cond.arrayOver (.object RX1) ∈ lw_tbl := List.mem_append_right _ (List.mem_of_getElem? (i := 191) (by decide +kernel))
set_option maxRecDepth 100000 in
theorem tb_ao8 : Jvm.Cond.arrayOver (.object RX8) ∈ lw_tbl := List.mem_append_right _ (List.mem_of_getElem? (i := 360) (by decide +kernel))
set_option maxRecDepth 100000 in
theorem tb_aoI : Jvm.Cond.arrayOver (.array .int) ∈ lw_tbl := List.mem_append_right _ (List.mem_of_getElem? (i := 138) (by decide +kernel))
set_option maxRecDepth 100000 in
theorem tb_ls0 : Jvm.Cond.laysStatic "EdgeChain" "AFTER_0" "[I" ∈ lw_tbl := List.mem_append_right _ (List.mem_of_getElem? (i := 679) (by decide +kernel))
set_option maxRecDepth 100000 in
theorem tb_ls1 : Jvm.Cond.laysStatic "EdgeChain" "AFTER_1" "[I" ∈ lw_tbl := List.mem_append_right _ (List.mem_of_getElem? (i := 677) (by decide +kernel))
set_option maxRecDepth 100000 in
theorem tb_lcs : Jvm.Cond.laysStatic RJ0 "COMPACT_STRINGS" "Z" ∈ lw_tbl := List.mem_append_right _ (List.mem_of_getElem? (i := 454) (by decide +kernel))
set_option maxRecDepth 100000 in
theorem tb_lfm : Jvm.Cond.laysStatic RJ3 "SIOOBE_FORMATTER" "Ljava/util/function/BiFunction;" ∈ lw_tbl := List.mem_append_right _ (List.mem_of_getElem? (i := 470) (by decide +kernel))
set_option maxRecDepth 100000 in
theorem tb_st0 : Jvm.Cond.stringRef RX7 42 "part" ∈ lw_tbl := List.mem_append_right _ (List.mem_of_getElem? (i := 440) (by decide +kernel))
set_option maxRecDepth 100000 in
theorem tb_st1 : Jvm.Cond.stringRef RX7 75 "id" ∈ lw_tbl := List.mem_append_right _ (List.mem_of_getElem? (i := 513) (by decide +kernel))
set_option maxRecDepth 100000 in
theorem tb_st2 : Jvm.Cond.stringRef RX7 88 "sample" ∈ lw_tbl := List.mem_append_right _ (List.mem_of_getElem? (i := 523) (by decide +kernel))
set_option maxRecDepth 100000 in
theorem tb_st3 : Jvm.Cond.stringRef RX7 99 "extest" ∈ lw_tbl := List.mem_append_right _ (List.mem_of_getElem? (i := 531) (by decide +kernel))
set_option maxRecDepth 100000 in
theorem tb_st4 : Jvm.Cond.stringRef RX7 106 "cells" ∈ lw_tbl := List.mem_append_right _ (List.mem_of_getElem? (i := 536) (by decide +kernel))
set_option maxRecDepth 100000 in
theorem tb_ie : Jvm.Cond.initialized "EdgeChain" ∈ lw_tbl := List.mem_append_right _ (List.mem_of_getElem? (i := 1) (by decide +kernel))
set_option maxRecDepth 100000 in
theorem ll_cl7 : Jvm.Cond.classLink RL 7 RX11 ∈ gw := vx_t 21 (by decide +kernel) (by decide +kernel)
set_option maxRecDepth 100000 in
theorem ll_cl10 : Jvm.Cond.classLink RL 10 RX12 ∈ gw := vx_t 1027 (by decide +kernel) (by decide +kernel)
set_option maxRecDepth 100000 in
theorem ll_X11_init : Jvm.Cond.methodLink RL 9 yX11_init ∈ gw := vx_t 23 (by decide +kernel) (by decide +kernel)
set_option maxRecDepth 100000 in
theorem ll_X12_init : Jvm.Cond.methodLink RL 12 yX12_init ∈ gw := vx_t 1029 (by decide +kernel) (by decide +kernel)
theorem tb_nst : ∀ w ∈ aNst, w ∈ lw_tbl := by
  intro w hw
  rw [aNst_ok] at hw
  obtain ⟨i, -, hi⟩ := List.mem_filterMap.mp hw
  exact List.mem_append_right _ (List.mem_of_getElem? hi)
theorem aNst_tab : ∀ w ∈ aNst, w.onTables = true := by
  intro w hw
  unfold aNst at hw
  simp only [List.mem_cons, List.not_mem_nil, or_false] at hw
  rcases hw with h | h | h | h | h | h | h | h | h | h | h | h | h | h <;> (rw [h]; rfl)
theorem law_K {s : State} {args : Array Value} (hts : ∀ w ∈ lw_tbl, w.before args s = true) : ∃ (D : va_G) (dA : Nat → ClassId), va_K D vwCl (aTys dA) s := by
  have hg : ∀ w ∈ gw, w.before args s = true := fun w hw => hts w (vx_gw hw).1
  have h0 : ∀ c : Nat, ∃ q : ClassId × (Nat → Nat), c < 12 → u_Kn s (aCl c).1 (aCl c).2.1 (aCl c).2.2 q.1 q.2 := by
    intro c
    by_cases hc : c < 12
    · obtain ⟨f1, f2, f3, f4, f5, f6, f7, f8⟩ := aClF_all hc
      obtain ⟨cC, iS, h⟩ := u_known hg f2 (hg _ f7)
      exact ⟨(cC, iS), fun _ => h⟩
    · exact ⟨(0, fun _ => 0), fun h => absurd h hc⟩
  obtain ⟨D0, hD0⟩ := Classical.axiomOfChoice h0
  have prim : ∀ ty : FieldType, (∀ C, ty ≠ .object C) → (Jvm.Cond.arrayClass ty).before args s = true → ∃ cA : ClassId, ArrOfT s cA ty ∧ s.vm.findClass (FieldType.array ty).toString = some cA := by
    intro ty _ harr
    obtain ⟨cA, kC, cc, h1, h2, h3⟩ := Cond.arrayClass_spec harr
    exact ⟨cA, fun N z => ⟨(fun k h => by cases h), kC, h2, cc, h3⟩, h1⟩
  obtain ⟨cI, i1, i2⟩ := prim .int (fun C h => by cases h) (hg _ aAc_int)
  obtain ⟨cB, b1, b2⟩ := prim .byte (fun C h => by cases h) (hg _ aAc_byte)
  obtain ⟨cJ, j1, j2⟩ := prim .long (fun C h => by cases h) (hg _ aAc_long)
  have obj : ∀ C : String, (Jvm.Cond.arrayOver (.object C)).before args s = true → ∃ cA : ClassId, ArrOfT s cA (.object C) ∧ va_RA s cA (.object C) := by
    intro C h
    obtain ⟨comp, c, k, h1, h2, h3, h4, h5⟩ := Cond.arrayOver_spec h
    exact ⟨c, fun N z => ⟨(fun k h => by cases h), k, h3, comp, h4⟩, k, comp, h3, h4, h1, h5⟩
  obtain ⟨cP, p1, p2⟩ := obj RX4 (hts _ tb_ao4)
  obtain ⟨cC, c1, c2⟩ := obj RX1 (hts _ tb_ao1)
  obtain ⟨cS, s1, s2⟩ := obj RX8 (hts _ tb_ao8)
  obtain ⟨comp, cA, kA, g1, g2, g3, g4⟩ := Cond.arrayOver_specA (hts _ tb_aoI)
  refine ⟨(fun c => (D0 c).1, fun c => (D0 c).2), fun k => if k = 20 then cI else if k = 21 then cB else if k = 22 then cJ else if k = 23 then cP else if k = 24 then cC else if k = 25 then cS else cA, fun c q hq => ?_, fun k q hq => ?_⟩
  · have hc : c < 12 := (List.getElem?_eq_some_iff.mp hq).1
    have e := (aClF_all hc).1
    rw [hq] at e
    cases e
    exact hD0 c hc
  · match k, hq with
    | 0, hq => cases hq; exact ⟨i1, i2⟩
    | 1, hq => cases hq; exact ⟨b1, b2⟩
    | 2, hq => cases hq; exact ⟨j1, j2⟩
    | 3, hq => cases hq; exact ⟨p1, p2⟩
    | 4, hq => cases hq; exact ⟨c1, c2⟩
    | 5, hq => cases hq; exact ⟨s1, s2⟩
    | 6, hq => cases hq; exact ⟨fun N z => ⟨(fun k h => by cases h), kA, g2, comp, g3⟩, g4⟩
    | k + 7, hq => cases hq
theorem law_E {s : State} {args : Array Value} (hts : ∀ w ∈ lw_tbl, w.before args s = true) (hgv : (Jvm.Cond.and given_1 narrow_1).before args s = true) : ∃ ext : Nat → Nat, aExt ext (lawA s) s s.heap := by
  have fs := flat_of_before _ hgv
  have hA : ∀ a : Nat, a < s.heap.size → ¬ lawA s a := fun a h => Nat.not_le.mpr h
  have st : ∀ w, w < 2 → ∃ t : Nat, va_Z "EdgeChain" (aSt w) "[I" (.ref t) (lawA s) s s.heap ∧ va_T .int t 16 (fun j => .int (aA w j)) (lawA s) s s.heap := by
    intro w hw
    rcases (show w = 0 ∨ w = 1 by omega) with rfl | rfl
    · obtain ⟨t, h1, h2⟩ := va_Tof (tm := .static "EdgeChain" "AFTER_0" "[I") (ty := .int) (N := 16) (f := fun j => .int (aA 0 j)) (A := lawA s) (by decide) (fs _ (by decide +kernel)) (va_eqt (fs _ (by decide +kernel))) (fun j hj => va_eqt (fs _ ((by decide +kernel : ∀ j, j < 16 → Jvm.Cond.eq (.elem (.static "EdgeChain" "AFTER_0" "[I") (.int (Int32.ofNat j))) (.int (aA 0 j)) ∈ flatC (Jvm.Cond.and given_1 narrow_1)) j hj))) hA
      exact ⟨t, va_Zref (hts _ tb_ls0) (hts _ tb_ie) h1 hA, h2⟩
    · obtain ⟨t, h1, h2⟩ := va_Tof (tm := .static "EdgeChain" "AFTER_1" "[I") (ty := .int) (N := 16) (f := fun j => .int (aA 1 j)) (A := lawA s) (by decide) (fs _ (by decide +kernel)) (va_eqt (fs _ (by decide +kernel))) (fun j hj => va_eqt (fs _ ((by decide +kernel : ∀ j, j < 16 → Jvm.Cond.eq (.elem (.static "EdgeChain" "AFTER_1" "[I") (.int (Int32.ofNat j))) (.int (aA 1 j)) ∈ flatC (Jvm.Cond.and given_1 narrow_1)) j hj))) hA
      exact ⟨t, va_Zref (hts _ tb_ls1) (hts _ tb_ie) h1 hA, h2⟩
  obtain ⟨t0, z0⟩ := st 0 (by decide)
  obtain ⟨t1, z1⟩ := st 1 (by decide)
  obtain ⟨adK, adV, hV, hev⟩ := vk_Sof (args := args) (s := s) (N := 5) (tm := fun w => .string RX7 (aSk.getD w 0)) (len := aSn) (byt := aStr) (A := lawA s) (by decide +kernel) (fun i hi => fs _ ((by decide +kernel : ∀ i, i < 5 → Jvm.Cond.exactly (.string RX7 (aSk.getD i 0)) "java/lang/String" ∈ flatC (Jvm.Cond.and given_1 narrow_1)) i hi)) (fun i hi => fs _ ((by decide +kernel : ∀ i, i < 5 → Jvm.Cond.eq (.field (.string RX7 (aSk.getD i 0)) "java/lang/String" "coder" "B") (.int 0) ∈ flatC (Jvm.Cond.and given_1 narrow_1)) i hi))
    (fun i hi => fs _ ((by decide +kernel : ∀ i, i < 5 → Jvm.Cond.arrayOf (.field (.string RX7 (aSk.getD i 0)) "java/lang/String" "value" "[B") .byte ∈ flatC (Jvm.Cond.and given_1 narrow_1)) i hi)) (fun i hi => fs _ ((by decide +kernel : ∀ i, i < 5 → Jvm.Cond.eq (.length (.field (.string RX7 (aSk.getD i 0)) "java/lang/String" "value" "[B")) (.int (Int32.ofNat (aSn.getD i 0))) ∈ flatC (Jvm.Cond.and given_1 narrow_1)) i hi))
    (fun i hi j hj => fs _ ((by decide +kernel : ∀ i, i < 5 → ∀ j, j < aSn.getD i 0 → Jvm.Cond.eq (.elem (.field (.string RX7 (aSk.getD i 0)) "java/lang/String" "value" "[B") (.int (Int32.ofNat j))) (.int ((aStr.getD i []).getD j 0)) ∈ flatC (Jvm.Cond.and given_1 narrow_1)) i hi j hj))
    (fun i j hi hj hij => ((by decide +kernel : ∀ i, i < 5 → ∀ j, j < 5 → i ≠ j → (Jvm.Cond.not (.eq (.string RX7 (aSk.getD i 0)) (.string RX7 (aSk.getD j 0))) ∈ flatC (Jvm.Cond.and given_1 narrow_1) ∨ Jvm.Cond.not (.eq (.string RX7 (aSk.getD j 0)) (.string RX7 (aSk.getD i 0))) ∈ flatC (Jvm.Cond.and given_1 narrow_1))) i hi j hj hij).imp (fs _) (fs _)) hA
  refine ⟨fun k => if k = 1000000 then t0 else if k = 1000001 then t1 else adK (k - 1000010), fun w hw => va_Nw.of (aNst_tab w hw) (hts w (tb_nst w hw)), ⟨va_AO.of (hts _ tb_ao4), va_AO.of (hts _ tb_ao1), va_AO.of (hts _ tb_ao8), hts _ tb_aoI⟩, fun w hw => ?_, fun w hw => ?_, ⟨adV, ?_⟩, va_Zof (hts _ tb_lcs) (hts _ (vx_gw ji_0).1) (va_eqt (fs _ (by decide +kernel))) hA, va_Zqof (hts _ tb_lfm) (hts _ (vx_gw ji_3).1) (fs _ (by decide +kernel)) hA⟩
  · rcases (show w = 0 ∨ w = 1 by omega) with rfl | rfl
    · exact z0
    · exact z1
  · have e : (if 1000010 + w = 1000000 then t0 else if 1000010 + w = 1000001 then t1 else adK (1000010 + w - 1000010)) = adK w := by
      rw [if_neg (by omega), if_neg (by omega), show 1000010 + w - 1000010 = w by omega]
    show vk_R RX7 (aSk.getD w 0) (aSx.getD w "") (if 1000010 + w = 1000000 then t0 else if 1000010 + w = 1000001 then t1 else adK (1000010 + w - 1000010)) s
    rw [e]
    refine vk_R.of (A := args) ?_ (hev w hw)
    rcases (show w = 0 ∨ w = 1 ∨ w = 2 ∨ w = 3 ∨ w = 4 by omega) with rfl | rfl | rfl | rfl | rfl
    · exact hts _ tb_st0
    · exact hts _ tb_st1
    · exact hts _ tb_st2
    · exact hts _ tb_st3
    · exact hts _ tb_st4
  · have e : (fun w => if 1000010 + w = 1000000 then t0 else if 1000010 + w = 1000001 then t1 else adK (1000010 + w - 1000010)) = adK := by
      funext w
      rw [if_neg (by omega), if_neg (by omega), show 1000010 + w - 1000010 = w by omega]
    show vk_S 5 aSn aStr (fun w => if 1000010 + w = 1000000 then t0 else if 1000010 + w = 1000001 then t1 else adK (1000010 + w - 1000010)) adV (lawA s) s s.heap
    rw [e]
    exact hV
