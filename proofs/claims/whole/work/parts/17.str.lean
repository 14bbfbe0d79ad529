/-! the strings: String.length, String.charAt on the five constants; Reader.isName -/
theorem dJ3_checkIndex_8e157_0 : decode cJ3_checkIndex_8e157 0 = .ok (.iload_n 0, 1) := by decide +kernel
theorem dJ3_checkIndex_8e157_1 : decode cJ3_checkIndex_8e157 1 = .ok (.ifCond .lt 8, 3) := by decide +kernel
theorem dJ3_checkIndex_8e157_4 : decode cJ3_checkIndex_8e157 4 = .ok (.iload_n 0, 1) := by decide +kernel
theorem dJ3_checkIndex_8e157_5 : decode cJ3_checkIndex_8e157 5 = .ok (.iload_n 1, 1) := by decide +kernel
theorem dJ3_checkIndex_8e157_6 : decode cJ3_checkIndex_8e157 6 = .ok (.if_icmp .lt 10, 3) := by decide +kernel
theorem dJ3_checkIndex_8e157_9 : decode cJ3_checkIndex_8e157 9 = .ok (.aload_n 2, 1) := by decide +kernel
theorem dJ3_checkIndex_8e157_10 : decode cJ3_checkIndex_8e157 10 = .ok (.iload_n 0, 1) := by decide +kernel
theorem dJ3_checkIndex_8e157_11 : decode cJ3_checkIndex_8e157 11 = .ok (.iload_n 1, 1) := by decide +kernel
theorem dJ3_checkIndex_8e157_12 : decode cJ3_checkIndex_8e157 12 = .ok (.invokestatic 95, 3) := by decide +kernel
theorem dJ3_checkIndex_8e157_15 : decode cJ3_checkIndex_8e157 15 = .ok (.athrow, 1) := by decide +kernel
theorem dJ3_checkIndex_8e157_16 : decode cJ3_checkIndex_8e157 16 = .ok (.iload_n 0, 1) := by decide +kernel
theorem dJ3_checkIndex_8e157_17 : decode cJ3_checkIndex_8e157 17 = .ok (.ireturn, 1) := by decide +kernel
theorem dJ0_checkIndex_df160_0 : decode cJ0_checkIndex_df160 0 = .ok (.iload_n 0, 1) := by decide +kernel
theorem dJ0_checkIndex_df160_1 : decode cJ0_checkIndex_df160 1 = .ok (.iload_n 1, 1) := by decide +kernel
theorem dJ0_checkIndex_df160_2 : decode cJ0_checkIndex_df160 2 = .ok (.getstatic 1053, 3) := by decide +kernel
theorem dJ0_checkIndex_df160_5 : decode cJ0_checkIndex_df160 5 = .ok (.invokestatic 1059, 3) := by decide +kernel
theorem dJ0_checkIndex_df160_8 : decode cJ0_checkIndex_df160 8 = .ok (.pop, 1) := by decide +kernel
theorem dJ0_checkIndex_df160_9 : decode cJ0_checkIndex_df160 9 = .ok (.return_, 1) := by decide +kernel
theorem dJ1_charAt_3b067_0 : decode cJ1_charAt_3b067 0 = .ok (.iload_n 1, 1) := by decide +kernel
theorem dJ1_charAt_3b067_1 : decode cJ1_charAt_3b067 1 = .ok (.aload_n 0, 1) := by decide +kernel
theorem dJ1_charAt_3b067_2 : decode cJ1_charAt_3b067 2 = .ok (.arraylength, 1) := by decide +kernel
theorem dJ1_charAt_3b067_3 : decode cJ1_charAt_3b067 3 = .ok (.invokestatic 9, 3) := by decide +kernel
theorem dJ1_charAt_3b067_6 : decode cJ1_charAt_3b067 6 = .ok (.aload_n 0, 1) := by decide +kernel
theorem dJ1_charAt_3b067_7 : decode cJ1_charAt_3b067 7 = .ok (.iload_n 1, 1) := by decide +kernel
theorem dJ1_charAt_3b067_8 : decode cJ1_charAt_3b067 8 = .ok (.baload, 1) := by decide +kernel
theorem dJ1_charAt_3b067_9 : decode cJ1_charAt_3b067 9 = .ok (.sipush 255, 3) := by decide +kernel
theorem dJ1_charAt_3b067_12 : decode cJ1_charAt_3b067 12 = .ok (.iand, 1) := by decide +kernel
theorem dJ1_charAt_3b067_13 : decode cJ1_charAt_3b067 13 = .ok (.i2c, 1) := by decide +kernel
theorem dJ1_charAt_3b067_14 : decode cJ1_charAt_3b067 14 = .ok (.ireturn, 1) := by decide +kernel
theorem dJ0_coder_7d493_0 : decode cJ0_coder_7d493 0 = .ok (.getstatic 38, 3) := by decide +kernel
theorem dJ0_coder_7d493_3 : decode cJ0_coder_7d493 3 = .ok (.ifCond .eq 10, 3) := by decide +kernel
theorem dJ0_coder_7d493_6 : decode cJ0_coder_7d493 6 = .ok (.aload_n 0, 1) := by decide +kernel
theorem dJ0_coder_7d493_7 : decode cJ0_coder_7d493 7 = .ok (.getfield 15, 3) := by decide +kernel
theorem dJ0_coder_7d493_10 : decode cJ0_coder_7d493 10 = .ok (.goto 4, 3) := by decide +kernel
theorem dJ0_coder_7d493_13 : decode cJ0_coder_7d493 13 = .ok (.iconst 1, 1) := by decide +kernel
theorem dJ0_coder_7d493_14 : decode cJ0_coder_7d493 14 = .ok (.ireturn, 1) := by decide +kernel
theorem dJ0_isLatin1_aae02_0 : decode cJ0_isLatin1_aae02 0 = .ok (.getstatic 38, 3) := by decide +kernel
theorem dJ0_isLatin1_aae02_3 : decode cJ0_isLatin1_aae02 3 = .ok (.ifCond .eq 14, 3) := by decide +kernel
theorem dJ0_isLatin1_aae02_6 : decode cJ0_isLatin1_aae02 6 = .ok (.aload_n 0, 1) := by decide +kernel
theorem dJ0_isLatin1_aae02_7 : decode cJ0_isLatin1_aae02 7 = .ok (.getfield 15, 3) := by decide +kernel
theorem dJ0_isLatin1_aae02_10 : decode cJ0_isLatin1_aae02 10 = .ok (.ifCond .ne 7, 3) := by decide +kernel
theorem dJ0_isLatin1_aae02_13 : decode cJ0_isLatin1_aae02 13 = .ok (.iconst 1, 1) := by decide +kernel
theorem dJ0_isLatin1_aae02_14 : decode cJ0_isLatin1_aae02 14 = .ok (.goto 4, 3) := by decide +kernel
theorem dJ0_isLatin1_aae02_17 : decode cJ0_isLatin1_aae02 17 = .ok (.iconst 0, 1) := by decide +kernel
theorem dJ0_isLatin1_aae02_18 : decode cJ0_isLatin1_aae02 18 = .ok (.ireturn, 1) := by decide +kernel
theorem dJ0_length_8abf5_0 : decode cJ0_length_8abf5 0 = .ok (.aload_n 0, 1) := by decide +kernel
theorem dJ0_length_8abf5_1 : decode cJ0_length_8abf5 1 = .ok (.getfield 9, 3) := by decide +kernel
theorem dJ0_length_8abf5_4 : decode cJ0_length_8abf5 4 = .ok (.arraylength, 1) := by decide +kernel
theorem dJ0_length_8abf5_5 : decode cJ0_length_8abf5 5 = .ok (.aload_n 0, 1) := by decide +kernel
theorem dJ0_length_8abf5_6 : decode cJ0_length_8abf5 6 = .ok (.invokevirtual 335, 3) := by decide +kernel
theorem dJ0_length_8abf5_9 : decode cJ0_length_8abf5 9 = .ok (.ishr, 1) := by decide +kernel
theorem dJ0_length_8abf5_10 : decode cJ0_length_8abf5 10 = .ok (.ireturn, 1) := by decide +kernel
theorem dJ0_charAt_5068e_0 : decode cJ0_charAt_5068e 0 = .ok (.aload_n 0, 1) := by decide +kernel
theorem dJ0_charAt_5068e_1 : decode cJ0_charAt_5068e 1 = .ok (.invokevirtual 492, 3) := by decide +kernel
theorem dJ0_charAt_5068e_4 : decode cJ0_charAt_5068e 4 = .ok (.ifCond .eq 12, 3) := by decide +kernel
theorem dJ0_charAt_5068e_7 : decode cJ0_charAt_5068e 7 = .ok (.aload_n 0, 1) := by decide +kernel
theorem dJ0_charAt_5068e_8 : decode cJ0_charAt_5068e 8 = .ok (.getfield 9, 3) := by decide +kernel
theorem dJ0_charAt_5068e_11 : decode cJ0_charAt_5068e 11 = .ok (.iload_n 1, 1) := by decide +kernel
theorem dJ0_charAt_5068e_12 : decode cJ0_charAt_5068e 12 = .ok (.invokestatic 495, 3) := by decide +kernel
theorem dJ0_charAt_5068e_15 : decode cJ0_charAt_5068e 15 = .ok (.ireturn, 1) := by decide +kernel
theorem dJ0_charAt_5068e_16 : decode cJ0_charAt_5068e 16 = .ok (.aload_n 0, 1) := by decide +kernel
theorem dJ0_charAt_5068e_17 : decode cJ0_charAt_5068e 17 = .ok (.getfield 9, 3) := by decide +kernel
theorem dJ0_charAt_5068e_20 : decode cJ0_charAt_5068e 20 = .ok (.iload_n 1, 1) := by decide +kernel
theorem dJ0_charAt_5068e_21 : decode cJ0_charAt_5068e 21 = .ok (.invokestatic 498, 3) := by decide +kernel
theorem dJ0_charAt_5068e_24 : decode cJ0_charAt_5068e 24 = .ok (.ireturn, 1) := by decide +kernel
theorem dX7_isName_0 : decode cX7_isName 0 = .ok (.aload_n 0, 1) := by decide +kernel
theorem dX7_isName_1 : decode cX7_isName 1 = .ok (.getfield 39, 3) := by decide +kernel
theorem dX7_isName_4 : decode cX7_isName 4 = .ok (.iconst 1, 1) := by decide +kernel
theorem dX7_isName_5 : decode cX7_isName 5 = .ok (.if_icmp .ne 19, 3) := by decide +kernel
theorem dX7_isName_8 : decode cX7_isName 8 = .ok (.aload_n 0, 1) := by decide +kernel
theorem dX7_isName_9 : decode cX7_isName 9 = .ok (.getfield 26, 3) := by decide +kernel
theorem dX7_isName_12 : decode cX7_isName 12 = .ok (.aload_n 0, 1) := by decide +kernel
theorem dX7_isName_13 : decode cX7_isName 13 = .ok (.getfield 116, 3) := by decide +kernel
theorem dX7_isName_16 : decode cX7_isName 16 = .ok (.isub, 1) := by decide +kernel
theorem dX7_isName_17 : decode cX7_isName 17 = .ok (.aload_n 1, 1) := by decide +kernel
theorem dX7_isName_18 : decode cX7_isName 18 = .ok (.invokevirtual 135, 3) := by decide +kernel
theorem dX7_isName_21 : decode cX7_isName 21 = .ok (.if_icmp .eq 5, 3) := by decide +kernel
theorem dX7_isName_24 : decode cX7_isName 24 = .ok (.iconst 0, 1) := by decide +kernel
theorem dX7_isName_25 : decode cX7_isName 25 = .ok (.ireturn, 1) := by decide +kernel
theorem dX7_isName_26 : decode cX7_isName 26 = .ok (.iconst 0, 1) := by decide +kernel
theorem dX7_isName_27 : decode cX7_isName 27 = .ok (.istore_n 2, 1) := by decide +kernel
theorem dX7_isName_28 : decode cX7_isName 28 = .ok (.iload_n 2, 1) := by decide +kernel
theorem dX7_isName_29 : decode cX7_isName 29 = .ok (.aload_n 1, 1) := by decide +kernel
theorem dX7_isName_30 : decode cX7_isName 30 = .ok (.invokevirtual 135, 3) := by decide +kernel
theorem dX7_isName_33 : decode cX7_isName 33 = .ok (.if_icmp .ge 33, 3) := by decide +kernel
theorem dX7_isName_36 : decode cX7_isName 36 = .ok (.aload_n 0, 1) := by decide +kernel
theorem dX7_isName_37 : decode cX7_isName 37 = .ok (.getfield 17, 3) := by decide +kernel
theorem dX7_isName_40 : decode cX7_isName 40 = .ok (.getfield 119, 3) := by decide +kernel
theorem dX7_isName_43 : decode cX7_isName 43 = .ok (.aload_n 0, 1) := by decide +kernel
theorem dX7_isName_44 : decode cX7_isName 44 = .ok (.getfield 116, 3) := by decide +kernel
theorem dX7_isName_47 : decode cX7_isName 47 = .ok (.iload_n 2, 1) := by decide +kernel
theorem dX7_isName_48 : decode cX7_isName 48 = .ok (.iadd, 1) := by decide +kernel
theorem dX7_isName_49 : decode cX7_isName 49 = .ok (.baload, 1) := by decide +kernel
theorem dX7_isName_50 : decode cX7_isName 50 = .ok (.aload_n 1, 1) := by decide +kernel
theorem dX7_isName_51 : decode cX7_isName 51 = .ok (.iload_n 2, 1) := by decide +kernel
theorem dX7_isName_52 : decode cX7_isName 52 = .ok (.invokevirtual 140, 3) := by decide +kernel
theorem dX7_isName_55 : decode cX7_isName 55 = .ok (.if_icmp .eq 5, 3) := by decide +kernel
theorem dX7_isName_58 : decode cX7_isName 58 = .ok (.iconst 0, 1) := by decide +kernel
theorem dX7_isName_59 : decode cX7_isName 59 = .ok (.ireturn, 1) := by decide +kernel
theorem dX7_isName_60 : decode cX7_isName 60 = .ok (.iinc 2 1, 3) := by decide +kernel
theorem dX7_isName_63 : decode cX7_isName 63 = .ok (.goto (-35), 3) := by decide +kernel
theorem dX7_isName_66 : decode cX7_isName 66 = .ok (.iconst 1, 1) := by decide +kernel
theorem dX7_isName_67 : decode cX7_isName 67 = .ok (.ireturn, 1) := by decide +kernel
set_option maxRecDepth 100000 in
theorem jw_pci : Jvm.Cond.code yJ3_checkIndex_8e157 cJ3_checkIndex_8e157 3 (some .int) ∈ gw := vx_t 473 (by decide +kernel) (by decide +kernel)
set_option maxRecDepth 100000 in
theorem jk_pci : Jvm.Cond.static yJ3_checkIndex_8e157 ∈ gw := vx_t 472 (by decide +kernel) (by decide +kernel)
set_option maxRecDepth 100000 in
theorem jl_pci : Jvm.Cond.methodLink RJ0 1059 yJ3_checkIndex_8e157 ∈ gw := vx_t 471 (by decide +kernel) (by decide +kernel)
set_option maxRecDepth 100000 in
theorem jw_sci : Jvm.Cond.code yJ0_checkIndex_df160 cJ0_checkIndex_df160 2 none ∈ gw := vx_t 468 (by decide +kernel) (by decide +kernel)
set_option maxRecDepth 100000 in
theorem jk_sci : Jvm.Cond.static yJ0_checkIndex_df160 ∈ gw := vx_t 467 (by decide +kernel) (by decide +kernel)
set_option maxRecDepth 100000 in
theorem jl_sci : Jvm.Cond.methodLink RJ1 9 yJ0_checkIndex_df160 ∈ gw := vx_t 466 (by decide +kernel) (by decide +kernel)
set_option maxRecDepth 100000 in
theorem jw_lch : Jvm.Cond.code yJ1_charAt_3b067 cJ1_charAt_3b067 2 (some .char) ∈ gw := vx_t 465 (by decide +kernel) (by decide +kernel)
set_option maxRecDepth 100000 in
theorem jk_lch : Jvm.Cond.static yJ1_charAt_3b067 ∈ gw := vx_t 464 (by decide +kernel) (by decide +kernel)
set_option maxRecDepth 100000 in
theorem jl_lch : Jvm.Cond.methodLink RJ0 495 yJ1_charAt_3b067 ∈ gw := vx_t 463 (by decide +kernel) (by decide +kernel)
set_option maxRecDepth 100000 in
theorem jw_cod : Jvm.Cond.code yJ0_coder_7d493 cJ0_coder_7d493 1 (some .byte) ∈ gw := vx_t 452 (by decide +kernel) (by decide +kernel)
set_option maxRecDepth 100000 in
theorem jk_cod : Jvm.Cond.instanceMethod yJ0_coder_7d493 ∈ gw := vx_t 450 (by decide +kernel) (by decide +kernel)
set_option maxRecDepth 100000 in
theorem js_cod : Jvm.Cond.selects RJ0 yJ0_coder_7d493 yJ0_coder_7d493 ∈ gw := vx_t 451 (by decide +kernel) (by decide +kernel)
set_option maxRecDepth 100000 in
theorem jl_cod : Jvm.Cond.methodLink RJ0 335 yJ0_coder_7d493 ∈ gw := vx_t 449 (by decide +kernel) (by decide +kernel)
set_option maxRecDepth 100000 in
theorem jw_lat : Jvm.Cond.code yJ0_isLatin1_aae02 cJ0_isLatin1_aae02 1 (some .boolean) ∈ gw := vx_t 462 (by decide +kernel) (by decide +kernel)
set_option maxRecDepth 100000 in
theorem jk_lat : Jvm.Cond.instanceMethod yJ0_isLatin1_aae02 ∈ gw := vx_t 460 (by decide +kernel) (by decide +kernel)
set_option maxRecDepth 100000 in
theorem js_lat : Jvm.Cond.selects RJ0 yJ0_isLatin1_aae02 yJ0_isLatin1_aae02 ∈ gw := vx_t 461 (by decide +kernel) (by decide +kernel)
set_option maxRecDepth 100000 in
theorem jl_lat : Jvm.Cond.methodLink RJ0 492 yJ0_isLatin1_aae02 ∈ gw := vx_t 459 (by decide +kernel) (by decide +kernel)
set_option maxRecDepth 100000 in
theorem jw_len : Jvm.Cond.code yJ0_length_8abf5 cJ0_length_8abf5 1 (some .int) ∈ gw := vx_t 448 (by decide +kernel) (by decide +kernel)
set_option maxRecDepth 100000 in
theorem jk_len : Jvm.Cond.instanceMethod yJ0_length_8abf5 ∈ gw := vx_t 446 (by decide +kernel) (by decide +kernel)
set_option maxRecDepth 100000 in
theorem js_len : Jvm.Cond.selects RJ0 yJ0_length_8abf5 yJ0_length_8abf5 ∈ gw := vx_t 447 (by decide +kernel) (by decide +kernel)
set_option maxRecDepth 100000 in
theorem jl_len : Jvm.Cond.methodLink RX7 135 yJ0_length_8abf5 ∈ gw := vx_t 445 (by decide +kernel) (by decide +kernel)
set_option maxRecDepth 100000 in
theorem jw_cha : Jvm.Cond.code yJ0_charAt_5068e cJ0_charAt_5068e 2 (some .char) ∈ gw := vx_t 458 (by decide +kernel) (by decide +kernel)
set_option maxRecDepth 100000 in
theorem jk_cha : Jvm.Cond.instanceMethod yJ0_charAt_5068e ∈ gw := vx_t 456 (by decide +kernel) (by decide +kernel)
set_option maxRecDepth 100000 in
theorem js_cha : Jvm.Cond.selects RJ0 yJ0_charAt_5068e yJ0_charAt_5068e ∈ gw := vx_t 457 (by decide +kernel) (by decide +kernel)
set_option maxRecDepth 100000 in
theorem jl_cha : Jvm.Cond.methodLink RX7 140 yJ0_charAt_5068e ∈ gw := vx_t 455 (by decide +kernel) (by decide +kernel)
set_option maxRecDepth 100000 in
theorem jf_cs : Jvm.Cond.fieldLink RJ0 38 RJ0 "COMPACT_STRINGS" "Z" ∈ gw := vx_t 453 (by decide +kernel) (by decide +kernel)
set_option maxRecDepth 100000 in
theorem jf_val : Jvm.Cond.fieldLink RJ0 9 RJ0 "value" "[B" ∈ gw := vx_t 1561 (by decide +kernel) (by decide +kernel)
set_option maxRecDepth 100000 in
theorem jf_cod : Jvm.Cond.fieldLink RJ0 15 RJ0 "coder" "B" ∈ gw := vx_t 1562 (by decide +kernel) (by decide +kernel)
set_option maxRecDepth 100000 in
theorem jf_fmt : Jvm.Cond.fieldLink RJ0 1053 RJ3 "SIOOBE_FORMATTER" "Ljava/util/function/BiFunction;" ∈ gw := vx_t 469 (by decide +kernel) (by decide +kernel)
set_option maxRecDepth 100000 in
theorem ji_0 : Jvm.Cond.initialized RJ0 ∈ gw := vx_t 14 (by decide +kernel) (by decide +kernel)
set_option maxRecDepth 100000 in
theorem ji_1 : Jvm.Cond.initialized RJ1 ∈ gw := vx_t 15 (by decide +kernel) (by decide +kernel)
set_option maxRecDepth 100000 in
theorem ji_3 : Jvm.Cond.initialized RJ3 ∈ gw := vx_t 16 (by decide +kernel) (by decide +kernel)
def jX (ad adV : Nat → Nat) (A : Nat → Prop) (U : State) (H : Heap) : Prop := vk_S 5 aSn aStr (fun w => ad (1000010 + w)) adV A U H ∧ va_Z RJ0 "COMPACT_STRINGS" "Z" (.int 1) A U H ∧ va_Zq RJ3 "SIOOBE_FORMATTER" "Ljava/util/function/BiFunction;" A U H
def jWs (y : MethodName) (b : ByteArray) (n : Nat) (r : Option FieldType) : List Jvm.Cond := .code y b n r :: gw
def jRm (n : Nat) : Room := { frames := n, cells := 0, slots := 0, locals := 30 * n }
def jQ (r : Option Value) : Array Value → State → Outcome → State → Prop := fun _ st oc t => oc = .returned r ∧ t.heap = st.heap
def jNo : Addr → Prop := fun _ => False
def jMet (l : Launch) (ad adV : Nat → Nat) (A : Nat → Prop) (y : MethodName) (b : ByteArray) (n : Nat) (rt : Option FieldType) (lv : Nat) (as : List Value) (r : Option Value) : Prop := Met l y (jWs y b n rt) (jRm lv) (va_Pc as (fun U => jX ad adV A U U.heap)) (jQ r) 0 0 jNo
theorem jX_warm {ad adV : Nat → Nat} {A : Nat → Prop} {s U : State} {H : Heap} (hW : s.WarmedH U.vm) (h : jX ad adV A s H) : jX ad adV A U H := ⟨h.1.moved hW.alike, h.2.1.moved hW.alike, h.2.2.moved' hW.alike⟩
theorem jX_blind {ad adV : Nat → Nat} {A : Nat → Prop} {as : List Value} : FrameBlind (va_Pc as (fun U => jX ad adV A U U.heap)) := by
  intro a U g mk q
  have hv : U.vm.Alike (U.calling g mk a).vm := Vm.Alike.refl U.vm
  exact ⟨q.1, (⟨q.2.1.moved hv, q.2.2.1.moved hv, q.2.2.2.moved' hv⟩ : jX ad adV A (U.calling g mk a) U.heap)⟩
theorem jPre {ad adV : Nat → Nat} {A : Nat → Prop} {as : List Value} {s : State} {H : Heap} (hE : jX ad adV A s H) (U : State) (hU : U.heap = H) (hW : s.WarmedH U.vm) : va_Pc as (fun U => jX ad adV A U U.heap) as.toArray U := by
  refine ⟨rfl, ?_⟩
  show jX ad adV A U U.heap
  rw [hU]
  exact jX_warm hW hE
theorem jGood {y : MethodName} {b : ByteArray} {n : Nat} {r : Option FieldType} (h : Jvm.Cond.code y b n r ∈ gw) : GoodIn gw (jWs y b n r) := by
  intro w hw
  rcases List.mem_cons.mp hw with rfl | hw
  · exact ⟨h, good_of_word (vx_gw h).2⟩
  · exact ⟨hw, good_of_word (vx_gw hw).2⟩
section JSTR
variable {p : Program} {l : Launch} {e : Env} {R : Room} {s : State} {m : MethodId} {args : Array Value} {below : List Frame} {meth : Method} {c : Code} {H : Heap} {locs : List Loc} {cells slots : Nat} {Q : State → Prop} {pc : Nat} {rl : Array Slot} {ad adV : Nat → Nat} {A : Nat → Prop}
theorem jGo {r : Option Value} {a : Array Value} {st0 rest : List Value} (hr : va_Run p l e R s m args below meth c H locs cells slots 0 0 (F0 m pc rl st0) rest (jQ r a) jNo) (kk : W p l e R s m args below meth c H locs cells slots Q (F0 m (pc + 3) rl (r.toList ++ rest))) : W p l e R s m args below meth c H locs cells slots Q (F0 m pc rl st0) := by
  intro T hT X
  obtain ⟨v, st₀, t, T', L, h0, X', hL, e1, e2, ⟨hv, ht⟩, st⟩ := hr T hT X
  cases hv
  have hLn : L = [] := by
    cases L with
    | nil => rfl
    | cons q _ => exact (hL q List.mem_cons_self).elim
  subst hLn
  rw [List.append_nil, Nat.add_zero, Nat.add_zero] at X'
  obtain ⟨t2, a1, b1⟩ := kk T' (by rw [e1, ht, h0]) X'
  exact ⟨t2, st t2 a1, b1⟩
end JSTR
section JM
variable {l : Launch} {ad adV : Nat → Nat} {A : Nat → Prop}
set_option maxHeartbeats 4000000 in
theorem jc_pci {i n : Int32} {f : Value} (hf : f = .null ∨ ∃ t, f = .ref t) (h0 : ¬ i < 0) (h1 : i < n) : jMet l ad adV A yJ3_checkIndex_8e157 cJ3_checkIndex_8e157 3 (some .int) 1 [.int i, .int n, f] (some (.int i)) := by
  refine Met.ofW (cc := cJ3_checkIndex_8e157) (maxL := 3) (ret := (some .int)) (ws' := gw) (by decide +kernel) rfl ?_
  intro p e s m args below meth c s₁ B hml hv
  obtain ⟨rfl, hE⟩ := hv
  have hx := B.exec
  have hb := B.bytes
  have hr := B.returns
  have hlk := B.notSynchronized
  have hown : s.vm.findClass RJ3 = some m.cls := findClass_of_methodNamed B.named
  have hts : ∀ w ∈ gw, w.before _ s = true := fun w hw => atoms_spec (ws := jWs yJ3_checkIndex_8e157 cJ3_checkIndex_8e157 3 (some .int)) B.pre w (List.mem_cons_of_mem _ hw)
  have hS : va_S A s.heap s.heap [] := va_S.rf
  have hl := lv_entry [.int i, .int n, f] (n := 3) (by rcases hf with rfl | ⟨t, rfl⟩ <;> exact Nat.le_of_ble_eq_true rfl)
  rw [lg_entry_eq]
  generalize (lg_sl [.int i, .int n, f] ++ List.replicate (3 - (lg_sl [.int i, .int n, f]).length) Slot.unset).toArray = ls at hl ⊢
  have hl : lv_has ls 3 [(0, .int i), (1, .int n)] := lv_sub hl [0, 1] rfl
  refine lv_iload_n hx hb dJ3_checkIndex_8e157_0 rfl (lv_at hl 0 rfl) ?_
  refine lv_if_lt (tgt := 9) hx hb dJ3_checkIndex_8e157_1 (by decide) (fun q => absurd q h0) (fun _ => ?_)
  refine lv_iload_n hx hb dJ3_checkIndex_8e157_4 rfl (lv_at hl 0 rfl) ?_
  refine lv_iload_n hx hb dJ3_checkIndex_8e157_5 rfl (lv_at hl 1 rfl) ?_
  refine lv_icmp_lt (tgt := 16) hx hb dJ3_checkIndex_8e157_6 (by decide) (fun _ => ?_) (fun q => absurd h1 q)
  refine lv_iload_n hx hb dJ3_checkIndex_8e157_16 rfl (lv_at hl 0 rfl) ?_
  exact W.iret hx hb hr (fun t ht _ => ⟨rfl, ht⟩) (fun q hq => by cases hq) dJ3_checkIndex_8e157_17 hlk
set_option maxHeartbeats 4000000 in
theorem jc_sci {i n : Int32} (h0 : ¬ i < 0) (h1 : i < n) : jMet l ad adV A yJ0_checkIndex_df160 cJ0_checkIndex_df160 2 none 2 [.int i, .int n] none := by
  refine Met.ofW (cc := cJ0_checkIndex_df160) (maxL := 2) (ret := none) (ws' := gw) (by decide +kernel) rfl ?_
  intro p e s m args below meth c s₁ B hml hv
  obtain ⟨rfl, hE⟩ := hv
  have hx := B.exec
  have hb := B.bytes
  have hr := B.returns
  have hlk := B.notSynchronized
  have hown : s.vm.findClass RJ0 = some m.cls := findClass_of_methodNamed B.named
  have hts : ∀ w ∈ gw, w.before _ s = true := fun w hw => atoms_spec (ws := jWs yJ0_checkIndex_df160 cJ0_checkIndex_df160 2 none) B.pre w (List.mem_cons_of_mem _ hw)
  have hS : va_S A s.heap s.heap [] := va_S.rf
  have hl := lv_entry [.int i, .int n] (n := 2) (Nat.le_of_ble_eq_true rfl)
  rw [lg_entry_eq]
  generalize (lg_sl [.int i, .int n] ++ List.replicate (2 - (lg_sl [.int i, .int n]).length) Slot.unset).toArray = ls at hl ⊢
  have hl : lv_has ls 2 [(0, .int i), (1, .int n)] := hl
  refine lv_iload_n hx hb dJ0_checkIndex_df160_0 rfl (lv_at hl 0 rfl) ?_
  refine lv_iload_n hx hb dJ0_checkIndex_df160_1 rfl (lv_at hl 1 rfl) ?_
  have kk : ∀ f : Value, (f = .null ∨ ∃ t, f = .ref t) → W p l e (headSpec (jWs yJ0_checkIndex_df160 cJ0_checkIndex_df160 2 none) (jRm 2)).room s m ([.int i, .int n] : List Value).toArray below meth c s.heap [] 0 0 (MQ below (jQ none) ([.int i, .int n] : List Value).toArray s 0 0 jNo) (F0 m 5 ls [f, .int n, .int i]) := by
    intro f hf
    refine jGo (va_runS (As := [.int i, .int n, f]) (rest := []) ⟨hx, hb, hml, hown, hts⟩ (jc_pci (ad := ad) (adV := adV) (A := A) hf h0 h1) ⟨callB_of 3 hts (jGood jw_pci) rfl rfl rfl (hts _ ji_3) (hts _ jl_pci) (by decide +kernel) ⟨Nat.le_of_ble_eq_true rfl, Nat.le_of_ble_eq_true rfl⟩, hts _ jk_pci⟩ ⟨jX_blind, fun U hU hW => jPre hE U hU hW⟩ rfl rfl hl.1 rfl (lv_room (Nat.le_of_ble_eq_true rfl)) dJ0_checkIndex_df160_5 ⟨Nat.le_refl 0, Nat.le_refl 0⟩) ?_
    refine lv_pop hx hb dJ0_checkIndex_df160_8 rfl ?_
    exact W.vret hx hb hr (fun t ht _ => ⟨rfl, ht⟩) (fun q hq => by cases hq) dJ0_checkIndex_df160_9 hlk
  rcases hE.2.2 with hz | ⟨t, hz⟩
  · exact va_gets hx hb hz hS hown (hts _ jf_fmt) (fun _ q => q) dJ0_checkIndex_df160_2 (kk _ (Or.inl rfl))
  · exact va_gets hx hb hz hS hown (hts _ jf_fmt) (fun _ q => q) dJ0_checkIndex_df160_2 (kk _ (Or.inr ⟨t, rfl⟩))
/-- the char at i of the string w -/
def jCh (w i : Nat) : Int32 := (aStr.getD w []).getD i 0
theorem jCh_ok : ∀ w, w < 5 → ∀ i, i < aSn.getD w 0 → (((jCh w i &&& 255).toUInt32 % 65536).toInt32 = jCh w i ∧ narrow .char (.int (jCh w i)) = .int (jCh w i)) := by decide +kernel
theorem aSn_lt : ∀ w, w < 5 → aSn.getD w 0 < 100 ∧ (nmT w).length = aSn.getD w 0 := by decide +kernel
set_option maxHeartbeats 4000000 in
theorem jc_lch {w i : Nat} (hw : w < 5) (hi : i < aSn.getD w 0) : jMet l ad adV A yJ1_charAt_3b067 cJ1_charAt_3b067 2 (some .char) 3 [.ref (adV w), .int (nI i)] (some (.int (jCh w i))) := by
  refine Met.ofW (cc := cJ1_charAt_3b067) (maxL := 2) (ret := (some .char)) (ws' := gw) (by decide +kernel) rfl ?_
  intro p e s m args below meth c s₁ B hml hv
  obtain ⟨rfl, hE⟩ := hv
  have hx := B.exec
  have hb := B.bytes
  have hr := B.returns
  have hlk := B.notSynchronized
  have hown : s.vm.findClass RJ1 = some m.cls := findClass_of_methodNamed B.named
  have hts : ∀ w ∈ gw, w.before _ s = true := fun w hw => atoms_spec (ws := jWs yJ1_charAt_3b067 cJ1_charAt_3b067 2 (some .char)) B.pre w (List.mem_cons_of_mem _ hw)
  have hS : va_S A s.heap s.heap [] := va_S.rf
  have hl := lv_entry [.ref (adV w), .int (nI i)] (n := 2) (Nat.le_of_ble_eq_true rfl)
  rw [lg_entry_eq]
  generalize (lg_sl [.ref (adV w), .int (nI i)] ++ List.replicate (2 - (lg_sl [.ref (adV w), .int (nI i)]).length) Slot.unset).toArray = ls at hl ⊢
  have hl : lv_has ls 2 [(0, .ref (adV w)), (1, .int (nI i))] := hl
  have hlt := (aSn_lt w hw).1
  refine lv_iload_n hx hb dJ1_charAt_3b067_0 rfl (lv_at hl 1 rfl) ?_
  refine lv_aload_n hx hb dJ1_charAt_3b067_1 rfl (lv_at hl 0 rfl) ?_
  refine va_tlen hx hb (hE.1.1 w hw).2.2.2 hS rfl dJ1_charAt_3b067_2 ?_
  refine jGo (va_runS (As := [.int (nI i), .int (Int32.ofNat (aSn.getD w 0))]) (rest := []) ⟨hx, hb, hml, hown, hts⟩ (jc_sci (ad := ad) (adV := adV) (A := A) (nI_pos (by omega)) (nI_lt hi (by omega))) ⟨callB_of 2 hts (jGood jw_sci) rfl rfl rfl (hts _ ji_0) (hts _ jl_sci) (by decide +kernel) ⟨Nat.le_of_ble_eq_true rfl, Nat.le_of_ble_eq_true rfl⟩, hts _ jk_sci⟩ ⟨jX_blind, fun U hU hW => jPre hE U hU hW⟩ rfl rfl hl.1 rfl (lv_room (Nat.le_of_ble_eq_true rfl)) dJ1_charAt_3b067_3 ⟨Nat.le_refl 0, Nat.le_refl 0⟩) ?_
  refine lv_aload_n hx hb dJ1_charAt_3b067_6 rfl (lv_at hl 0 rfl) ?_
  refine lv_iload_n hx hb dJ1_charAt_3b067_7 rfl (lv_at hl 1 rfl) ?_
  refine va_tb hx hb (hE.1.1 w hw).2.2.2 hS (vp_in_nI hi (by omega)) (v := .int (jCh w i)) (by rw [nI_clamp (by omega)]; rfl) dJ1_charAt_3b067_8 ?_
  refine lv_sipush (v := 255) hx hb dJ1_charAt_3b067_9 (by decide) ?_
  refine lv_iand hx hb dJ1_charAt_3b067_12 ?_
  refine lv_i2c (v := jCh w i) hx hb dJ1_charAt_3b067_13 (jCh_ok w hw i hi).1 ?_
  exact W.zret hx hb hr (jCh_ok w hw i hi).2 (fun t ht _ => ⟨rfl, ht⟩) (fun q hq => by cases hq) dJ1_charAt_3b067_14 hlk
set_option maxHeartbeats 4000000 in
theorem jc_cod {w : Nat} (hw : w < 5) : jMet l ad adV A yJ0_coder_7d493 cJ0_coder_7d493 1 (some .byte) 1 [.ref (ad (1000010 + w))] (some (.int 0)) := by
  refine Met.ofW (cc := cJ0_coder_7d493) (maxL := 1) (ret := (some .byte)) (ws' := gw) (by decide +kernel) rfl ?_
  intro p e s m args below meth c s₁ B hml hv
  obtain ⟨rfl, hE⟩ := hv
  have hx := B.exec
  have hb := B.bytes
  have hr := B.returns
  have hlk := B.notSynchronized
  have hown : s.vm.findClass RJ0 = some m.cls := findClass_of_methodNamed B.named
  have hts : ∀ w ∈ gw, w.before _ s = true := fun w hw => atoms_spec (ws := jWs yJ0_coder_7d493 cJ0_coder_7d493 1 (some .byte)) B.pre w (List.mem_cons_of_mem _ hw)
  have hS : va_S A s.heap s.heap [] := va_S.rf
  have hl := lv_entry [.ref (ad (1000010 + w))] (n := 1) (Nat.le_of_ble_eq_true rfl)
  rw [lg_entry_eq]
  generalize (lg_sl [.ref (ad (1000010 + w))] ++ List.replicate (1 - (lg_sl [.ref (ad (1000010 + w))]).length) Slot.unset).toArray = ls at hl ⊢
  have hl : lv_has ls 1 [(0, .ref (ad (1000010 + w)))] := hl
  refine va_gets hx hb hE.2.1 hS hown (hts _ jf_cs) (fun _ q => q) dJ0_coder_7d493_0 ?_
  refine lv_if_eq (tgt := 13) hx hb dJ0_coder_7d493_3 (by decide) (fun q => absurd q (by decide)) (fun _ => ?_)
  refine lv_aload_n hx hb dJ0_coder_7d493_6 rfl (lv_at hl 0 rfl) ?_
  refine vk_getf hx hb (hE.1.1 w hw).2.1 hS hown (hts _ jf_cod) (fun _ q => q) dJ0_coder_7d493_7 ?_
  refine lv_goto (tgt := 14) hx hb dJ0_coder_7d493_10 (by decide) ?_
  exact W.zret hx hb hr rfl (fun t ht _ => ⟨rfl, ht⟩) (fun q hq => by cases hq) dJ0_coder_7d493_14 hlk
set_option maxHeartbeats 4000000 in
theorem jc_lat {w : Nat} (hw : w < 5) : jMet l ad adV A yJ0_isLatin1_aae02 cJ0_isLatin1_aae02 1 (some .boolean) 1 [.ref (ad (1000010 + w))] (some (.int 1)) := by
  refine Met.ofW (cc := cJ0_isLatin1_aae02) (maxL := 1) (ret := (some .boolean)) (ws' := gw) (by decide +kernel) rfl ?_
  intro p e s m args below meth c s₁ B hml hv
  obtain ⟨rfl, hE⟩ := hv
  have hx := B.exec
  have hb := B.bytes
  have hr := B.returns
  have hlk := B.notSynchronized
  have hown : s.vm.findClass RJ0 = some m.cls := findClass_of_methodNamed B.named
  have hts : ∀ w ∈ gw, w.before _ s = true := fun w hw => atoms_spec (ws := jWs yJ0_isLatin1_aae02 cJ0_isLatin1_aae02 1 (some .boolean)) B.pre w (List.mem_cons_of_mem _ hw)
  have hS : va_S A s.heap s.heap [] := va_S.rf
  have hl := lv_entry [.ref (ad (1000010 + w))] (n := 1) (Nat.le_of_ble_eq_true rfl)
  rw [lg_entry_eq]
  generalize (lg_sl [.ref (ad (1000010 + w))] ++ List.replicate (1 - (lg_sl [.ref (ad (1000010 + w))]).length) Slot.unset).toArray = ls at hl ⊢
  have hl : lv_has ls 1 [(0, .ref (ad (1000010 + w)))] := hl
  refine va_gets hx hb hE.2.1 hS hown (hts _ jf_cs) (fun _ q => q) dJ0_isLatin1_aae02_0 ?_
  refine lv_if_eq (tgt := 17) hx hb dJ0_isLatin1_aae02_3 (by decide) (fun q => absurd q (by decide)) (fun _ => ?_)
  refine lv_aload_n hx hb dJ0_isLatin1_aae02_6 rfl (lv_at hl 0 rfl) ?_
  refine vk_getf hx hb (hE.1.1 w hw).2.1 hS hown (hts _ jf_cod) (fun _ q => q) dJ0_isLatin1_aae02_7 ?_
  refine lv_if_ne (tgt := 17) hx hb dJ0_isLatin1_aae02_10 (by decide) (fun q => absurd rfl q) (fun _ => ?_)
  refine lv_iconst (v := 1) hx hb dJ0_isLatin1_aae02_13 (by decide) ?_
  refine lv_goto (tgt := 18) hx hb dJ0_isLatin1_aae02_14 (by decide) ?_
  exact W.zret hx hb hr rfl (fun t ht _ => ⟨rfl, ht⟩) (fun q hq => by cases hq) dJ0_isLatin1_aae02_18 hlk
set_option maxHeartbeats 4000000 in
theorem jc_len {w : Nat} (hw : w < 5) : jMet l ad adV A yJ0_length_8abf5 cJ0_length_8abf5 1 (some .int) 2 [.ref (ad (1000010 + w))] (some (.int (nI (aSn.getD w 0)))) := by
  refine Met.ofW (cc := cJ0_length_8abf5) (maxL := 1) (ret := (some .int)) (ws' := gw) (by decide +kernel) rfl ?_
  intro p e s m args below meth c s₁ B hml hv
  obtain ⟨rfl, hE⟩ := hv
  have hx := B.exec
  have hb := B.bytes
  have hr := B.returns
  have hlk := B.notSynchronized
  have hown : s.vm.findClass RJ0 = some m.cls := findClass_of_methodNamed B.named
  have hts : ∀ w ∈ gw, w.before _ s = true := fun w hw => atoms_spec (ws := jWs yJ0_length_8abf5 cJ0_length_8abf5 1 (some .int)) B.pre w (List.mem_cons_of_mem _ hw)
  have hS : va_S A s.heap s.heap [] := va_S.rf
  have hl := lv_entry [.ref (ad (1000010 + w))] (n := 1) (Nat.le_of_ble_eq_true rfl)
  rw [lg_entry_eq]
  generalize (lg_sl [.ref (ad (1000010 + w))] ++ List.replicate (1 - (lg_sl [.ref (ad (1000010 + w))]).length) Slot.unset).toArray = ls at hl ⊢
  have hl : lv_has ls 1 [(0, .ref (ad (1000010 + w)))] := hl
  refine lv_aload_n hx hb dJ0_length_8abf5_0 rfl (lv_at hl 0 rfl) ?_
  refine vk_getf hx hb (hE.1.1 w hw).2.2.1 hS hown (hts _ jf_val) (fun _ q => q) dJ0_length_8abf5_1 ?_
  refine va_tlen hx hb (hE.1.1 w hw).2.2.2 hS rfl dJ0_length_8abf5_4 ?_
  refine lv_aload_n hx hb dJ0_length_8abf5_5 rfl (lv_at hl 0 rfl) ?_
  refine jGo (va_runV (C := RJ0) (As := []) (rest := [.int (Int32.ofNat (aSn.getD w 0))]) ⟨hx, hb, hml, hown, hts⟩ (jc_cod (ad := ad) (adV := adV) (A := A) hw) ⟨callB_of 0 hts (jGood jw_cod) rfl rfl rfl (hts _ ji_0) (hts _ jl_cod) (by decide +kernel) ⟨Nat.le_of_ble_eq_true rfl, Nat.le_of_ble_eq_true rfl⟩, hts _ jk_cod, hts _ js_cod⟩ ⟨jX_blind, vk_recv hE.1 hw hS, fun U hU hW => jPre hE U hU hW⟩ rfl rfl hl.1 rfl (lv_room (Nat.le_of_ble_eq_true rfl)) dJ0_length_8abf5_6 ⟨Nat.le_refl 0, Nat.le_refl 0⟩) ?_
  refine lv_ishr hx hb dJ0_length_8abf5_9 ?_
  have hlt := (aSn_lt w hw).1
  have e1 : Int32.ofNat (aSn.getD w 0) >>> ((0 : Int32) &&& 31) = nI (aSn.getD w 0) := sb_shr0 _
  rw [e1]
  exact W.iret hx hb hr (fun t ht _ => ⟨rfl, ht⟩) (fun q hq => by cases hq) dJ0_length_8abf5_10 hlk
set_option maxHeartbeats 4000000 in
theorem jc_cha {w i : Nat} (hw : w < 5) (hi : i < aSn.getD w 0) : jMet l ad adV A yJ0_charAt_5068e cJ0_charAt_5068e 2 (some .char) 4 [.ref (ad (1000010 + w)), .int (nI i)] (some (.int (jCh w i))) := by
  refine Met.ofW (cc := cJ0_charAt_5068e) (maxL := 2) (ret := (some .char)) (ws' := gw) (by decide +kernel) rfl ?_
  intro p e s m args below meth c s₁ B hml hv
  obtain ⟨rfl, hE⟩ := hv
  have hx := B.exec
  have hb := B.bytes
  have hr := B.returns
  have hlk := B.notSynchronized
  have hown : s.vm.findClass RJ0 = some m.cls := findClass_of_methodNamed B.named
  have hts : ∀ w ∈ gw, w.before _ s = true := fun w hw => atoms_spec (ws := jWs yJ0_charAt_5068e cJ0_charAt_5068e 2 (some .char)) B.pre w (List.mem_cons_of_mem _ hw)
  have hS : va_S A s.heap s.heap [] := va_S.rf
  have hl := lv_entry [.ref (ad (1000010 + w)), .int (nI i)] (n := 2) (Nat.le_of_ble_eq_true rfl)
  rw [lg_entry_eq]
  generalize (lg_sl [.ref (ad (1000010 + w)), .int (nI i)] ++ List.replicate (2 - (lg_sl [.ref (ad (1000010 + w)), .int (nI i)]).length) Slot.unset).toArray = ls at hl ⊢
  have hl : lv_has ls 2 [(0, .ref (ad (1000010 + w))), (1, .int (nI i))] := hl
  refine lv_aload_n hx hb dJ0_charAt_5068e_0 rfl (lv_at hl 0 rfl) ?_
  refine jGo (va_runV (C := RJ0) (As := []) (rest := []) ⟨hx, hb, hml, hown, hts⟩ (jc_lat (ad := ad) (adV := adV) (A := A) hw) ⟨callB_of 0 hts (jGood jw_lat) rfl rfl rfl (hts _ ji_0) (hts _ jl_lat) (by decide +kernel) ⟨Nat.le_of_ble_eq_true rfl, Nat.le_of_ble_eq_true rfl⟩, hts _ jk_lat, hts _ js_lat⟩ ⟨jX_blind, vk_recv hE.1 hw hS, fun U hU hW => jPre hE U hU hW⟩ rfl rfl hl.1 rfl (lv_room (Nat.le_of_ble_eq_true rfl)) dJ0_charAt_5068e_1 ⟨Nat.le_refl 0, Nat.le_refl 0⟩) ?_
  refine lv_if_eq (tgt := 16) hx hb dJ0_charAt_5068e_4 (by decide) (fun q => absurd q (by decide)) (fun _ => ?_)
  refine lv_aload_n hx hb dJ0_charAt_5068e_7 rfl (lv_at hl 0 rfl) ?_
  refine vk_getf hx hb (hE.1.1 w hw).2.2.1 hS hown (hts _ jf_val) (fun _ q => q) dJ0_charAt_5068e_8 ?_
  refine lv_iload_n hx hb dJ0_charAt_5068e_11 rfl (lv_at hl 1 rfl) ?_
  refine jGo (va_runS (As := [.ref (adV w), .int (nI i)]) (rest := []) ⟨hx, hb, hml, hown, hts⟩ (jc_lch (ad := ad) (adV := adV) (A := A) hw hi) ⟨callB_of 2 hts (jGood jw_lch) rfl rfl rfl (hts _ ji_1) (hts _ jl_lch) (by decide +kernel) ⟨Nat.le_of_ble_eq_true rfl, Nat.le_of_ble_eq_true rfl⟩, hts _ jk_lch⟩ ⟨jX_blind, fun U hU hW => jPre hE U hU hW⟩ rfl rfl hl.1 rfl (lv_room (Nat.le_of_ble_eq_true rfl)) dJ0_charAt_5068e_12 ⟨Nat.le_refl 0, Nat.le_refl 0⟩) ?_
  exact W.zret hx hb hr (jCh_ok w hw i hi).2 (fun t ht _ => ⟨rfl, ht⟩) (fun q hq => by cases hq) dJ0_charAt_5068e_15 hlk
end JM
