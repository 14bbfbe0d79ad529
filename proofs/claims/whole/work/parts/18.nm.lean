/-! Reader.isName -/
set_option maxRecDepth 100000 in
theorem jr_kind : Jvm.Cond.fieldLink RX7 39 "EdgeChain$Reader" "kind" "I" ∈ gw := vx_t 107 (by decide +kernel) (by decide +kernel)
set_option maxRecDepth 100000 in
theorem jr_behind : Jvm.Cond.fieldLink RX7 26 "EdgeChain$Reader" "behind" "I" ∈ gw := vx_t 109 (by decide +kernel) (by decide +kernel)
set_option maxRecDepth 100000 in
theorem jr_first : Jvm.Cond.fieldLink RX7 116 "EdgeChain$Reader" "first" "I" ∈ gw := vx_t 108 (by decide +kernel) (by decide +kernel)
set_option maxRecDepth 100000 in
theorem jr_tape : Jvm.Cond.fieldLink RX7 17 "EdgeChain$Reader" "tape" "LEdgeChain$Tape;" ∈ gw := vx_t 98 (by decide +kernel) (by decide +kernel)
set_option maxRecDepth 100000 in
theorem jr_bytes : Jvm.Cond.fieldLink RX7 119 "EdgeChain$Tape" "bytes" "[B" ∈ gw := vx_t 36 (by decide +kernel) (by decide +kernel)
theorem nm_sub {a b n : Nat} (ha : a ≤ 240) (hb : b ≤ 240) (hn : n < 100) (h : nI b - nI a = nI n) : b = a + n := by
  have h1 : (nI b - nI a).toInt = (b : Int) - a := pk_sub_toInt (by omega) (by omega)
  rw [h, nI_toInt (by omega)] at h1
  omega
theorem nm_of {x : Int32} (h0 : 0 ≤ x.toInt) (h1 : x.toInt ≤ 240) : ∃ a : Nat, a ≤ 240 ∧ x = nI a := by
  have hx : ¬ x < 0 := by rw [Int32.lt_iff_toInt_lt, Int32.toInt_zero]; omega
  obtain ⟨j, hj, rfl⟩ := nI_of hx
  rw [nI_toInt hj] at h1
  exact ⟨j, by omega, rfl⟩
set_option maxHeartbeats 8000000 in
set_option maxRecDepth 20000 in
theorem nmMet {l : Launch} : aNmOk l := by
  intro D dA ad al as N sz r h
  unfold aNm at h
  split at h
  · rename_i t w
    split at h
    · rename_i tp ht htp
      split at h
      · rename_i by_ htb hby
        obtain ⟨hc, rfl⟩ := aq_bif h
        simp only [Bool.and_eq_true, decide_eq_true_eq, Nat.ble_eq, Nat.blt_eq] at hc
        obtain ⟨⟨⟨⟨⟨⟨hb3, w1⟩, w2⟩, c1⟩, c2⟩, c3⟩, c4⟩ := hc
        obtain ⟨v, rfl⟩ : ∃ v : Nat, w = 1000010 + v := ⟨w - 1000010, (Nat.add_sub_of_le w1).symm⟩
        have hv : v < 5 := Nat.lt_of_add_lt_add_left (n := 1000010) (show 1000010 + v < 1000010 + 5 from w2)
        rw [show 1000010 + v - 1000010 = v from Nat.add_sub_cancel_left _ _]
        obtain ⟨a, ha, ea⟩ := nm_of c1 c2
        obtain ⟨b, hb240, eb⟩ := nm_of c3 c4
        obtain ⟨hs1, hs2⟩ := aSn_lt v hv
        have hs2 : (aStr.getD v []).length = aSn.getD v 0 := hs2
        unfold aMet
        rw [show (((some (Value.int (if N.2.1 t 5 = 1 ∧ N.2.1 t 7 - N.2.1 t 6 = nI (aStr.getD v []).length ∧ ∀ j : Nat, j < (aStr.getD v []).length → N.2.1 by_ ((N.2.1 t 6).toNatClampNeg + j) = (aStr.getD v []).getD j 0 then 1 else 0)), N) : Option Value × aV).2.1.length - N.1.length) = 0 from Nat.sub_self _, show (csz ((some (Value.int (if N.2.1 t 5 = 1 ∧ N.2.1 t 7 - N.2.1 t 6 = nI (aStr.getD v []).length ∧ ∀ j : Nat, j < (aStr.getD v []).length → N.2.1 by_ ((N.2.1 t 6).toNatClampNeg + j) = (aStr.getD v []).getD j 0 then 1 else 0)), N) : Option Value × aV).2 - csz N) = 0 from Nat.sub_self _]
        refine Met.ofW (cc := cX7_isName) (maxL := 3) (ret := some .boolean) (ws' := gw) (by decide +kernel) rfl ?_
        intro p e s m args below meth c s₁ B hml hv0
        obtain ⟨rfl, hsz, hP, hD, hK, hE, hal⟩ := hv0
        have hx := B.exec
        have hb := B.bytes
        have hr := B.returns
        have hlk := B.notSynchronized
        have hown : s.vm.findClass RX7 = some m.cls := findClass_of_methodNamed B.named
        have hts : ∀ w ∈ gw, w.before _ s = true := fun w hw => atoms_spec (ws := aWs mIsName) B.pre w (List.mem_cons_of_mem _ hw)
        have hS : va_S (va_A (aWl dA ad N) sz) s.heap s.heap [] := va_S.rf
        obtain ⟨adV, hV⟩ := hE.2.2.2.2.1
        have hJ : jX ad adV (va_A (aWl dA ad N) sz) s s.heap := ⟨hV, hE.2.2.2.2.2.1, hE.2.2.2.2.2.2⟩
        have hl := lv_entry (List.map (aTv ad) [Value.ref t, Value.ref (1000010 + v)]) (n := 3) (Nat.le_of_ble_eq_true rfl)
        rw [lg_entry_eq]
        generalize (lg_sl (List.map (aTv ad) [Value.ref t, Value.ref (1000010 + v)]) ++ List.replicate (3 - (lg_sl (List.map (aTv ad) [Value.ref t, Value.ref (1000010 + v)])).length) Slot.unset).toArray = ls at hl ⊢
        have hl : lv_has ls 3 [(0, .ref (ad t)), (1, .ref (ad (1000010 + v)))] := hl
        have hgt := aWl_get (dA := dA) (ad := ad) ht
        rw [aE_obj (by decide)] at hgt
        have hgp := aWl_get (dA := dA) (ad := ad) htb
        rw [aE_obj (by decide)] at hgp
        have hgb := aWl_get (dA := dA) (ad := ad) hb3
        rw [aE_int (Or.inr rfl)] at hgb
        obtain ⟨f1, f2, -, -, -, -, -, -⟩ := aClF_6
        obtain ⟨g1, g2, -, -, -, -, -, -⟩ := aClF_8
        have hend : ∀ (x : Int32) (pc : Nat) (ls : Array Slot), decode cX7_isName pc = .ok (.ireturn, 1) → (x = 0 ∨ x = 1) → x = (if N.2.1 t 5 = 1 ∧ N.2.1 t 7 - N.2.1 t 6 = nI (aStr.getD v []).length ∧ ∀ j : Nat, j < (aStr.getD v []).length → N.2.1 by_ ((N.2.1 t 6).toNatClampNeg + j) = (aStr.getD v []).getD j 0 then 1 else 0) → W p l e (headSpec (aWs mIsName) (aRm mIsName 0 0)).room s m (List.map (aTv ad) [Value.ref t, Value.ref (1000010 + v)]).toArray below meth c s.heap [] 0 0 (MQ below (aQc D dA ad N sz (some (Value.int (if N.2.1 t 5 = 1 ∧ N.2.1 t 7 - N.2.1 t 6 = nI (aStr.getD v []).length ∧ ∀ j : Nat, j < (aStr.getD v []).length → N.2.1 by_ ((N.2.1 t 6).toNatClampNeg + j) = (aStr.getD v []).getD j 0 then 1 else 0)), N)) (List.map (aTv ad) [Value.ref t, Value.ref (1000010 + v)]).toArray s 0 0 (va_A (aWl dA ad N) sz)) (F0 m pc ls [.int x]) := by
          intro x pc ls hd hx2 hx3
          refine W.zret hx hb hr (by rcases hx2 with rfl | rfl <;> rfl) (fun u hu _ => ⟨by rw [hx3], by rw [hu]; exact hP, hD, ?_⟩) (fun q hq => by cases hq) hd hlk
          exact va_S.F hS hu
        have hlen : ∀ (pc : Nat) (ls : Array Slot) (rest : List Value) (Q : State → Prop), decode cX7_isName pc = .ok (.invokevirtual 135, 3) → ls.size = 3 → (rest.map fun v => v.category).sum ≤ 8 → W p l e (headSpec (aWs mIsName) (aRm mIsName 0 0)).room s m (List.map (aTv ad) [Value.ref t, Value.ref (1000010 + v)]).toArray below meth c s.heap [] 0 0 Q (F0 m (pc + 3) ls (.int (nI (aSn.getD v 0)) :: rest)) → W p l e (headSpec (aWs mIsName) (aRm mIsName 0 0)).room s m (List.map (aTv ad) [Value.ref t, Value.ref (1000010 + v)]).toArray below meth c s.heap [] 0 0 Q (F0 m pc ls (.ref (ad (1000010 + v)) :: rest)) := by
          intro pc ls rest Q hd hls hrest kk
          exact jGo (va_runV (C := RJ0) (As := []) (rest := rest) ⟨hx, hb, hml, hown, hts⟩ (jc_len (ad := ad) (adV := adV) (A := va_A (aWl dA ad N) sz) hv) ⟨callB_of 0 hts (jGood jw_len) rfl rfl rfl (hts _ ji_0) (hts _ jl_len) (by decide +kernel) ⟨Nat.le_of_ble_eq_true rfl, Nat.le_of_ble_eq_true rfl⟩, hts _ jk_len, hts _ js_len⟩ ⟨jX_blind, vk_recv hJ.1 hv hS, fun U hU hW => jPre hJ U hU hW⟩ rfl rfl hls rfl (lv_room hrest) hd ⟨Nat.le_refl 0, Nat.le_refl 0⟩) kk
        refine lv_aload_n hx hb dX7_isName_0 rfl (lv_at hl 0 rfl) ?_
        refine va_get hx hb hts f2 hown hK hP t hgt f1 5 (by decide) (hts _ jr_kind) (fun _ q => q) (aFs_at (by decide)) dX7_isName_1 ?_
        refine lv_iconst (v := 1) hx hb dX7_isName_4 (by decide) ?_
        refine lv_icmp_ne (tgt := 24) hx hb dX7_isName_5 (by decide) (fun q1 => ?_) (fun q1 => ?_)
        · refine lv_iconst (v := 0) hx hb dX7_isName_24 (by decide) ?_
          exact hend 0 25 ls dX7_isName_25 (Or.inl rfl) (by rw [if_neg (fun q => q1 q.1)])
        refine lv_aload_n hx hb dX7_isName_8 rfl (lv_at hl 0 rfl) ?_
        refine va_get hx hb hts f2 hown hK hP t hgt f1 7 (by decide) (hts _ jr_behind) (fun _ q => q) (aFs_at (by decide)) dX7_isName_9 ?_
        refine lv_aload_n hx hb dX7_isName_12 rfl (lv_at hl 0 rfl) ?_
        refine va_get hx hb hts f2 hown hK hP t hgt f1 6 (by decide) (hts _ jr_first) (fun _ q => q) (aFs_at (by decide)) dX7_isName_13 ?_
        refine lv_isub hx hb dX7_isName_16 ?_
        refine lv_aload_n hx hb dX7_isName_17 rfl (lv_at hl 1 rfl) ?_
        refine hlen 18 ls _ _ dX7_isName_18 hl.1 (Nat.le_of_ble_eq_true rfl) ?_
        refine lv_icmp_eq (tgt := 26) hx hb dX7_isName_21 (by decide) (fun q2 => ?_) (fun q2 => ?_)
        · have q2 : N.2.1 t 7 - N.2.1 t 6 = nI (aSn.getD v 0) := q2
          have hba : b = a + aSn.getD v 0 := nm_sub ha hb240 hs1 (by rw [← eb, ← ea]; exact q2)
          refine lv_iconst (v := 0) hx hb dX7_isName_26 (by decide) ?_
          refine lv_istore_n (lv' := [(2, .int 0), (0, .ref (ad t)), (1, .ref (ad (1000010 + v)))]) hx hb dX7_isName_27 rfl hl (by decide) rfl (fun ls hl => ?_)
          have loop : ∀ (k i : Nat) (ls : Array Slot), i + k = aSn.getD v 0 → (∀ j, j < i → N.2.1 by_ (a + j) = (aStr.getD v []).getD j 0) → lv_has ls 3 [(2, .int (nI i)), (0, .ref (ad t)), (1, .ref (ad (1000010 + v)))] → W p l e (headSpec (aWs mIsName) (aRm mIsName 0 0)).room s m (List.map (aTv ad) [Value.ref t, Value.ref (1000010 + v)]).toArray below meth c s.heap [] 0 0 (MQ below (aQc D dA ad N sz (some (Value.int (if N.2.1 t 5 = 1 ∧ N.2.1 t 7 - N.2.1 t 6 = nI (aStr.getD v []).length ∧ ∀ j : Nat, j < (aStr.getD v []).length → N.2.1 by_ ((N.2.1 t 6).toNatClampNeg + j) = (aStr.getD v []).getD j 0 then 1 else 0)), N)) (List.map (aTv ad) [Value.ref t, Value.ref (1000010 + v)]).toArray s 0 0 (va_A (aWl dA ad N) sz)) (F0 m 28 ls []) := by
            intro k
            induction k with
            | zero =>
              intro i ls hik hall hl
              refine lv_iload_n hx hb dX7_isName_28 rfl (lv_at hl 0 rfl) ?_
              refine lv_aload_n hx hb dX7_isName_29 rfl (lv_at hl 2 rfl) ?_
              refine hlen 30 ls _ _ dX7_isName_30 hl.1 (Nat.le_of_ble_eq_true rfl) ?_
              refine lv_icmp_ge (tgt := 66) hx hb dX7_isName_33 (by decide) (fun _ => ?_) (fun q => absurd (nI_le (by omega) (by omega)) q)
              refine lv_iconst (v := 1) hx hb dX7_isName_66 (by decide) ?_
              refine hend 1 67 ls dX7_isName_67 (Or.inr rfl) ?_
              exact (if_pos ⟨q1, by rw [hs2]; exact q2, fun j hj => by rw [ea, nI_clamp (by omega)]; exact hall j (by omega)⟩).symm
            | succ k ih =>
              intro i ls hik hall hl
              have hi : i < aSn.getD v 0 := by omega
              refine lv_iload_n hx hb dX7_isName_28 rfl (lv_at hl 0 rfl) ?_
              refine lv_aload_n hx hb dX7_isName_29 rfl (lv_at hl 2 rfl) ?_
              refine hlen 30 ls _ _ dX7_isName_30 hl.1 (Nat.le_of_ble_eq_true rfl) ?_
              refine lv_icmp_ge (tgt := 66) hx hb dX7_isName_33 (by decide) (fun q => absurd q (nI_ge hi (by omega))) (fun _ => ?_)
              refine lv_aload_n hx hb dX7_isName_36 rfl (lv_at hl 1 rfl) ?_
              refine va_get hx hb hts f2 hown hK hP t hgt f1 0 (by decide) (hts _ jr_tape) (fun _ q => q) (aFs_at (by decide)) dX7_isName_37 ?_
              rw [show aFv ad N 6 t 0 = .ref (ad tp) by show va_rf ((N.2.2.2 t 0).map ad) = _; rw [htp]; rfl]
              refine va_get hx hb hts g2 hown hK hP tp hgp g1 0 (by decide) (hts _ jr_bytes) (fun _ q => q) (aFs_at (by decide)) dX7_isName_40 ?_
              rw [show aFv ad N 8 tp 0 = .ref (ad by_) by show va_rf ((N.2.2.2 tp 0).map ad) = _; rw [hby]; rfl]
              refine lv_aload_n hx hb dX7_isName_43 rfl (lv_at hl 1 rfl) ?_
              refine va_get hx hb hts f2 hown hK hP t hgt f1 6 (by decide) (hts _ jr_first) (fun _ q => q) (aFs_at (by decide)) dX7_isName_44 ?_
              rw [show aFv ad N 6 t 6 = .int (nI a) by show Value.int (N.2.1 t 6) = _; rw [ea]]
              refine lv_iload_n hx hb dX7_isName_47 rfl (lv_at hl 0 rfl) ?_
              refine lv_iadd hx hb dX7_isName_48 ?_
              rw [nI_add]
              refine va_bald hx hb hK hP by_ 1 hgb rfl (vp_in_nI (by omega) (by omega)) dX7_isName_49 ?_
              rw [nI_clamp (by omega)]
              refine lv_aload_n hx hb dX7_isName_50 rfl (lv_at hl 2 rfl) ?_
              refine lv_iload_n hx hb dX7_isName_51 rfl (lv_at hl 0 rfl) ?_
              refine jGo (va_runV (C := RJ0) (As := [.int (nI i)]) (rest := [.int (N.2.1 by_ (a + i))]) ⟨hx, hb, hml, hown, hts⟩ (jc_cha (ad := ad) (adV := adV) (A := va_A (aWl dA ad N) sz) hv hi) ⟨callB_of 1 hts (jGood jw_cha) rfl rfl rfl (hts _ ji_0) (hts _ jl_cha) (by decide +kernel) ⟨Nat.le_of_ble_eq_true rfl, Nat.le_of_ble_eq_true rfl⟩, hts _ jk_cha, hts _ js_cha⟩ ⟨jX_blind, vk_recv hJ.1 hv hS, fun U hU hW => jPre hJ U hU hW⟩ rfl rfl hl.1 rfl (lv_room (Nat.le_of_ble_eq_true rfl)) dX7_isName_52 ⟨Nat.le_refl 0, Nat.le_refl 0⟩) ?_
              refine lv_icmp_eq (tgt := 60) hx hb dX7_isName_55 (by decide) (fun q3 => ?_) (fun q3 => ?_)
              · refine lv_iinc (v := nI (i + 1)) (lv' := [(2, .int (nI (i + 1))), (0, .ref (ad t)), (1, .ref (ad (1000010 + v)))]) (k := 0) hx hb dX7_isName_60 hl rfl (nI_1 i) (by decide) rfl (fun ls hl => ?_)
                refine lv_goto (tgt := 28) hx hb dX7_isName_63 (by decide) ?_
                refine ih (i + 1) ls (by omega) (fun j hj => ?_) hl
                by_cases hji : j = i
                · subst hji; exact q3
                · exact hall j (by omega)
              · refine lv_iconst (v := 0) hx hb dX7_isName_58 (by decide) ?_
                refine hend 0 59 ls dX7_isName_59 (Or.inl rfl) ?_
                rw [if_neg]
                rintro ⟨-, -, q4⟩
                apply q3
                have := q4 i (by rw [hs2]; exact hi)
                rw [ea, nI_clamp (by omega)] at this
                exact this
          exact loop (aSn.getD v 0) 0 ls (by omega) (fun j hj => by omega) hl
        · refine lv_iconst (v := 0) hx hb dX7_isName_24 (by decide) ?_
          refine hend 0 25 ls dX7_isName_25 (Or.inl rfl) ?_
          rw [if_neg]
          rintro ⟨-, q, -⟩
          apply q2
          show N.2.1 t 7 - N.2.1 t 6 = nI (aSn.getD v 0)
          rw [← hs2]
          exact q
      · cases h
    · cases h
  · cases h
