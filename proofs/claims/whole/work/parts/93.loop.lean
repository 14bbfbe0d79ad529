/-! the law's loop -/
section LOOP
variable {p : Program} {l : Launch} {e : Env} {s : State} {m : MethodId} {below : List Frame} {meth : Method} {c : Code} {b L : Nat} {xs : Nat → Int32} {D : va_G} {dA : Nat → ClassId} {adX adM : Nat → Nat}
set_option maxHeartbeats 8000000 in
theorem law_loop {Inv : wM → wM → Prop} (hI : lawOk Inv) (F : LFx p l s m c b L xs D dA adX adM) (hr : meth.sig.returnType = ret) (hlocks : meth.locks = false) (hL : L ≤ 3072) : ∀ (n i : Nat) (Mx Mm : wM) (H : Heap) (locs : List Loc) (rl : Array Slot), L - i < n → i ≤ L + 6 → Inv Mx Mm → LWd D dA adX adM s Mx Mm H locs → lv_has rl 4 [(0, .ref b), (1, .ref (adX 0)), (2, .ref (adM 0)), (3, .int (nI i))] → W p l e room_1 s m #[Value.ref b] below meth c H locs 600000 7302250 (lw_Z below #[Value.ref b] s) (F0 m 18 rl []) := by
  intro n
  induction n with
  | zero => intro i Mx Mm H locs rl h; omega
  | succ n ih =>
    intro i Mx Mm H locs rl hn hiL hv hW hl
    obtain ⟨hx, hb, hml, hown, hts, hX, hbl, -⟩ := id F
    have hbA : ¬ lawA s b := Nat.not_le.mpr hbl
    refine lv_iload_n hx hb dL_18 rfl (lv_at hl 3 rfl) ?_
    refine lv_aload_n hx hb dL_19 rfl (lv_at hl 0 rfl) ?_
    refine va_slen hx hb hX hbl hbA hW.2.2.2.2 dL_20 ?_
    refine lv_bipush (v := nI 6) hx hb dL_21 (by decide) ?_
    refine lv_isub hx hb dL_23 ?_
    have e1 : (Int32.ofNat L - nI 6).toInt = (L : Int) - 6 := pk_sub_toInt (by omega) (by omega)
    refine lv_icmp_gt (tgt := 1337) hx hb dL_24 (by decide) (fun _ => ?_) (fun q => ?_)
    · refine lv_iconst (v := 1) hx hb dL_1337 (by decide) ?_
      have hW2 : va_S (lawA s) s.heap H locs := hW.2.2.2.2
      exact va_forget hW2.2.2 (lw_ret hx hb hr hlocks dL_1338)
    · have hi : i + 6 ≤ L := by
        rw [Int32.lt_iff_toInt_lt, e1, nI_toInt (by omega)] at q
        omega
      have K : ∀ (A B : wM) (H1 : Heap) (locs1 : List Loc), Inv A B → LWd D dA adX adM s A B H1 locs1 → W p l e room_1 s m #[Value.ref b] below meth c H1 locs1 600000 7302250 (lw_Z below #[Value.ref b] s) (F0 m 1331 rl []) := by
        intro A B H1 locs1 hv1 hW1
        refine lv_iinc (v := nI (i + 6)) (lv' := [(3, .int (nI (i + 6))), (0, .ref b), (1, .ref (adX 0)), (2, .ref (adM 0))]) (k := 3) hx hb dL_1331 hl rfl (nI_add i 6) (by decide) rfl (fun ls hl => ?_)
        refine lv_goto (tgt := 18) hx hb dL_1334 (by decide) ?_
        exact ih (i + 6) A B H1 locs1 ls (by omega) (by omega) hv1 hW1 (lv_sub hl [1, 2, 3, 0] rfl)
      refine lv_aload_n hx hb dL_27 rfl (lv_at hl 0 rfl) ?_
      refine lv_iload_n hx hb dL_28 rfl (lv_at hl 3 rfl) ?_
      refine va_sld hx hb hX hbl hbA hW.2.2.2.2 (vp_in_nI (show i < L by omega) (by omega)) dL_29 ?_
      refine lv_bipush (v := nI 63) hx hb dL_30 (by decide) ?_
      refine lv_iand hx hb dL_32 ?_
      obtain ⟨j, hj, ej⟩ := pk_andE (xs (nI i).toNatClampNeg) (m := nI 63) 6 (by decide)
      rw [ej]
      have ej2 : (nI j).toInt = (j : Int) := nI_toInt (by omega)
      by_cases h34 : 34 ≤ j
      · refine lv_tableOut (tgt := 1331) hx hb dL_33 (Or.inr (by rw [ej2]; omega)) (by decide) ?_
        exact K Mx Mm H locs hv hW
      · have hc : j = 0 ∨ j = 1 ∨ j = 2 ∨ j = 3 ∨ j = 4 ∨ j = 5 ∨ j = 6 ∨ j = 7 ∨ j = 8 ∨ j = 9 ∨ j = 10 ∨ j = 11 ∨ j = 12 ∨ j = 13 ∨ j = 14 ∨ j = 15 ∨ j = 16 ∨ j = 17 ∨ j = 18 ∨ j = 19 ∨ j = 20 ∨ j = 21 ∨ j = 22 ∨ j = 23 ∨ j = 24 ∨ j = 25 ∨ j = 26 ∨ j = 27 ∨ j = 28 ∨ j = 29 ∨ j = 30 ∨ j = 31 ∨ j = 32 ∨ j = 33 := by omega
        rcases hc with rfl | rfl | rfl | rfl | rfl | rfl | rfl | rfl | rfl | rfl | rfl | rfl | rfl | rfl | rfl | rfl | rfl | rfl | rfl | rfl | rfl | rfl | rfl | rfl | rfl | rfl | rfl | rfl | rfl | rfl | rfl | rfl | rfl | rfl
        · exact lv_tableIn (tgt := 184) hx hb dL_33 (by decide) (by decide) (off := 151) (by decide) (by decide) (lc_0 hI F hL hi hv hW (Nat.le_refl _) (Nat.le_refl _) hl K)
        · exact lv_tableIn (tgt := 237) hx hb dL_33 (by decide) (by decide) (off := 204) (by decide) (by decide) (lc_1 hI F hL hi hv hW (Nat.le_refl _) (Nat.le_refl _) hl K)
        · exact lv_tableIn (tgt := 260) hx hb dL_33 (by decide) (by decide) (off := 227) (by decide) (by decide) (lc_2 hI F hL hi hv hW (Nat.le_refl _) (Nat.le_refl _) hl K)
        · exact lv_tableIn (tgt := 273) hx hb dL_33 (by decide) (by decide) (off := 240) (by decide) (by decide) (lc_3 hI F hL hi hv hW (Nat.le_refl _) (Nat.le_refl _) hl K)
        · exact lv_tableIn (tgt := 286) hx hb dL_33 (by decide) (by decide) (off := 253) (by decide) (by decide) (lc_4 hI F hL hi hv hW (Nat.le_refl _) (Nat.le_refl _) hl K)
        · exact lv_tableIn (tgt := 319) hx hb dL_33 (by decide) (by decide) (off := 286) (by decide) (by decide) (lc_5 hI F hL hi hv hW (Nat.le_refl _) (Nat.le_refl _) hl K)
        · exact lv_tableIn (tgt := 342) hx hb dL_33 (by decide) (by decide) (off := 309) (by decide) (by decide) (lc_6 hI F hL hi hv hW (Nat.le_refl _) (Nat.le_refl _) hl K)
        · exact lv_tableIn (tgt := 375) hx hb dL_33 (by decide) (by decide) (off := 342) (by decide) (by decide) (lc_7 hI F hL hi hv hW (Nat.le_refl _) (Nat.le_refl _) hl K)
        · exact lv_tableIn (tgt := 408) hx hb dL_33 (by decide) (by decide) (off := 375) (by decide) (by decide) (lc_8 hI F hL hi hv hW (Nat.le_refl _) (Nat.le_refl _) hl K)
        · exact lv_tableIn (tgt := 473) hx hb dL_33 (by decide) (by decide) (off := 440) (by decide) (by decide) (lc_9 hI F hL hi hv hW (Nat.le_refl _) (Nat.le_refl _) hl K)
        · exact lv_tableIn (tgt := 516) hx hb dL_33 (by decide) (by decide) (off := 483) (by decide) (by decide) (lc_10 hI F hL hi hv hW (Nat.le_refl _) (Nat.le_refl _) hl K)
        · exact lv_tableIn (tgt := 539) hx hb dL_33 (by decide) (by decide) (off := 506) (by decide) (by decide) (lc_11 hI F hL hi hv hW (Nat.le_refl _) (Nat.le_refl _) hl K)
        · exact lv_tableIn (tgt := 582) hx hb dL_33 (by decide) (by decide) (off := 549) (by decide) (by decide) (lc_12 hI F hL hi hv hW (Nat.le_refl _) (Nat.le_refl _) hl K)
        · exact lv_tableIn (tgt := 605) hx hb dL_33 (by decide) (by decide) (off := 572) (by decide) (by decide) (lc_13 hI F hL hi hv hW (Nat.le_refl _) (Nat.le_refl _) hl K)
        · exact lv_tableIn (tgt := 684) hx hb dL_33 (by decide) (by decide) (off := 651) (by decide) (by decide) (lc_14 hI F hL hi hv hW (Nat.le_refl _) (Nat.le_refl _) hl K)
        · exact lv_tableIn (tgt := 707) hx hb dL_33 (by decide) (by decide) (off := 674) (by decide) (by decide) (lc_15 hI F hL hi hv hW (Nat.le_refl _) (Nat.le_refl _) hl K)
        · exact lv_tableIn (tgt := 720) hx hb dL_33 (by decide) (by decide) (off := 687) (by decide) (by decide) (lc_16 hI F hL hi hv hW (Nat.le_refl _) (Nat.le_refl _) hl K)
        · exact lv_tableIn (tgt := 744) hx hb dL_33 (by decide) (by decide) (off := 711) (by decide) (by decide) (lc_17 hI F hL hi hv hW (Nat.le_refl _) (Nat.le_refl _) hl K)
        · exact lv_tableIn (tgt := 757) hx hb dL_33 (by decide) (by decide) (off := 724) (by decide) (by decide) (lc_18 hI F hL hi hv hW (Nat.le_refl _) (Nat.le_refl _) hl K)
        · exact lv_tableIn (tgt := 770) hx hb dL_33 (by decide) (by decide) (off := 737) (by decide) (by decide) (lc_19 hI F hL hi hv hW (Nat.le_refl _) (Nat.le_refl _) hl K)
        · exact lv_tableIn (tgt := 813) hx hb dL_33 (by decide) (by decide) (off := 780) (by decide) (by decide) (lc_20 hI F hL hi hv hW (Nat.le_refl _) (Nat.le_refl _) hl K)
        · exact lv_tableIn (tgt := 846) hx hb dL_33 (by decide) (by decide) (off := 813) (by decide) (by decide) (lc_21 hI F hL hi hv hW (Nat.le_refl _) (Nat.le_refl _) hl K)
        · exact lv_tableIn (tgt := 889) hx hb dL_33 (by decide) (by decide) (off := 856) (by decide) (by decide) (lc_22 hI F hL hi hv hW (Nat.le_refl _) (Nat.le_refl _) hl K)
        · exact lv_tableIn (tgt := 948) hx hb dL_33 (by decide) (by decide) (off := 915) (by decide) (by decide) (lc_23 hI F hL hi hv hW (Nat.le_refl _) (Nat.le_refl _) hl K)
        · exact lv_tableIn (tgt := 981) hx hb dL_33 (by decide) (by decide) (off := 948) (by decide) (by decide) (lc_24 hI F hL hi hv hW (Nat.le_refl _) (Nat.le_refl _) hl K)
        · exact lv_tableIn (tgt := 1004) hx hb dL_33 (by decide) (by decide) (off := 971) (by decide) (by decide) (lc_25 hI F hL hi hv hW (Nat.le_refl _) (Nat.le_refl _) hl K)
        · exact lv_tableIn (tgt := 1047) hx hb dL_33 (by decide) (by decide) (off := 1014) (by decide) (by decide) (lc_26 hI F hL hi hv hW (Nat.le_refl _) (Nat.le_refl _) hl K)
        · exact lv_tableIn (tgt := 1100) hx hb dL_33 (by decide) (by decide) (off := 1067) (by decide) (by decide) (lc_27 hI F hL hi hv hW (Nat.le_refl _) (Nat.le_refl _) hl K)
        · exact lv_tableIn (tgt := 1133) hx hb dL_33 (by decide) (by decide) (off := 1100) (by decide) (by decide) (lc_28 hI F hL hi hv hW (Nat.le_refl _) (Nat.le_refl _) hl K)
        · exact lv_tableIn (tgt := 1166) hx hb dL_33 (by decide) (by decide) (off := 1133) (by decide) (by decide) (lc_29 hI F hL hi hv hW (Nat.le_refl _) (Nat.le_refl _) hl K)
        · exact lv_tableIn (tgt := 1199) hx hb dL_33 (by decide) (by decide) (off := 1166) (by decide) (by decide) (lc_30 hI F hL hi hv hW (Nat.le_refl _) (Nat.le_refl _) hl K)
        · exact lv_tableIn (tgt := 1222) hx hb dL_33 (by decide) (by decide) (off := 1189) (by decide) (by decide) (lc_31 hI F hL hi hv hW (Nat.le_refl _) (Nat.le_refl _) hl K)
        · exact lv_tableIn (tgt := 1265) hx hb dL_33 (by decide) (by decide) (off := 1232) (by decide) (by decide) (lc_32 hI F hL hi hv hW (Nat.le_refl _) (Nat.le_refl _) hl K)
        · exact lv_tableIn (tgt := 1308) hx hb dL_33 (by decide) (by decide) (off := 1275) (by decide) (by decide) (lc_33 hI F hL hi hv hW (Nat.le_refl _) (Nat.le_refl _) hl K)
end LOOP
