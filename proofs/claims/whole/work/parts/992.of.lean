/-! netOf, chipOf -/
theorem nI_c {x : Int32} {n : Nat} (hn : n < 2 ^ 31) : x = nI n ∨ ¬ x = nI n := Classical.em _
theorem feet_eq {X M : wM} {nc k : Nat} (h : Inv X M) (h1 : nc ≤ 6) (e1 : gi X 26 3 = nI nc) (hk : k < 8) : fcn (gi M 23) k (10 * nc) = ftN X k := by
  obtain ⟨nc2, np, nn, h2, -, h3, e2, -, -, -, e5, -, hc⟩ := Inv_nc h
  obtain rfl : nc = nc2 := inj31 (e1.symm.trans e2) (by omega) (by omega)
  rw [ftN_eq, show (60 : Nat) = 10 * nc + (60 - 10 * nc) by omega, fcn_more]
  · refine fcn_congr _ (fun q hq => ?_)
    obtain ⟨p2, L2, n2, o2, idv2, sa2, ex2, ord2, orow2, lat2, opn2, br2, cr3, -, -, -, -, -, -, -, k82⟩ := hc (q / 10) (by omega)
    have := (k82 (q % 10) (by omega)).1
    rw [show 10 * (q / 10) + q % 10 = q by omega] at this
    unfold gX
    rw [this]
  · intro q g1 g2
    obtain ⟨nc3, np3, nn3, b1, b2, b3, b4, b5, b6, b7, b8, b9⟩ := id h.2.2.2.1
    obtain rfl : nc3 = nc := inj31 (b4.symm.trans e1) (by omega) (by omega)
    have := (b9 (q / 10) (by omega) (by omega)).2.2.2.2 (q % 10) (by omega)
    unfold gX
    rw [this]
    exact fun y => n4_ne (n := k) (by omega) y.symm
theorem law_netOf (x1 x2 : Int32) (Mx Mm : wM) (h : Inv Mx Mm) : w_X11_netOf x1 x2 Mx (fun r A => w_X12_netOf x1 x2 Mm (fun r2 B => r = r2 ∧ Inv A B)) := by
  obtain ⟨nc, nn, h1, h8, e1, e2, e5, e6, hc⟩ := Inv_cf h
  have nf := Inv_nf h h8 e5
  have b8 := p8 h8
  unfold w_X11_netOf
  refine hasNet_w h8 e5 (fun c => bf ne10 ?_) (fun c => bt rfl (isNet_w h8 e6 (fun z => absurd z c) (fun _ => bt rfl ⟨rfl, h⟩)))
  obtain ⟨j, hj, rfl, ej⟩ := nI_ex (x := x1) c.1
  have j8 : j < nn := by omega
  have v8 : vp_in (nI j) 8 := vp_in_nI (by omega) (by decide)
  have i1 : ∀ P : Int32 → wM → Prop, P (nI 1) Mm → w_X12_isNet (nI j) Mm P := fun P p => isNet_w h8 e6 (fun _ => p) (fun z => absurd c z)
  by_cases c2 : 0 ≤ x2.toInt ∧ x2.toInt ≤ 3
  · obtain ⟨w, hw, rfl, ew⟩ := nI_ex (x := x2) c2.1
    have i2 : ∀ Q : Int32 → wM → Prop, ((nI 3) ≤ nI w → w_X12_findTogether 28 27 Mm (fun M9 => ∃ n, wL_X12_netOf_72 (nI j) Q n (nI 0) M9)) ∧ (¬ (nI 3) ≤ nI w → (nI w = (nI 0) → w_X12_levelNow (nI j) Mm (fun r13 M14 => Q r13 M14)) ∧ (¬ nI w = (nI 0) → (nI w = (nI 1) → w_X12_ownOf (nI j) Mm (fun r16 M17 => Q r16 M17)) ∧ (¬ nI w = (nI 1) → w_X12_feetOn (nI j) Mm (fun r18 M19 => Q r18 M19)))) → w_X12_netOf (nI j) (nI w) Mm Q := fun Q q => i1 _ (bf ne10 (in_t (by decide) (hi_N (by decide)) c2 (bf ne10 q)))
    have ol : bld (ownB Mx nc) 8 < 256 := bld_lt _ 8
    obtain ⟨lv8, hv, -⟩ := lvR_bit nf ol
    rcases (show w = 0 ∨ w = 1 ∨ w = 2 ∨ w = 3 by omega) with rfl | rfl | rfl | rfl
    · refine bt rfl (ownX h1 h8 e1 hc (levX nf ol rfl (fun _ => rfl) (bit_w (by omega) (by omega) (i2 _ (bf (by decide) (bt rfl (levNowM h h1 h8 e1 e5 j8 hv (fun M' f => ⟨rfl, Inv_sc h f⟩))))))))
    · refine bf (by decide) (bt rfl (ownX h1 h8 e1 hc (bit_w (by omega) (by omega) (i2 _ (bf (by decide) (bf (by decide) (bt rfl (ownM h1 e2 hc ⟨?_, h⟩))))))))
      rw [bld_bit, decide_eq_true (show j < 8 by omega), Bool.true_and]
    · refine bf (by decide) (bf (by decide) (bt rfl ⟨v8, i2 _ (bf (by decide) (bf (by decide) (bf (by decide) (feetM h1 e2 ⟨?_, h⟩))))⟩))
      rw [nI_clamp hj, feet_eq h h1 e1 (by omega)]
      exact h.2.2.2.2.2.2.2.2.2.2 j (by omega)
    · obtain ⟨mk, r, hp, e24, -, -⟩ := nf.2.2.2.2 j j8
      have hm := hp.1
      refine bf (by decide) (bf (by decide) (bf (by decide) (bt rfl (leastX (by omega) e24 (by omega) (fun l hl => i2 _ (bt (by decide) (togM h h8 e5 (fun M' f g => ?_))))))))
      obtain ⟨mk', r', hp', k1, -⟩ := g j j8
      obtain rfl : mk = mk' := (HP_uniq (fun _ => Iff.rfl) hp hp').1
      have ll : l ≤ j ∧ mk.testBit l = true ∧ ∀ t, t < l → mk.testBit t = false := by
        rcases hl with ⟨rfl, z⟩ | ⟨z1, z2, z3⟩
        · exact ⟨Nat.le_refl _, (hp.2.1 l).mpr Cn_refl, z⟩
        · exact ⟨by omega, z2, z3⟩
      refine lo1 (fun K y M => wb_X12_netOf_72 (nI j) K y M _) (fun _ _ _ => rfl) l (fun _ M2 => M2 = M') ?_ ?_ (Nat.zero_le _) rfl
      · rintro i M2 K hi rfl kk
        unfold wb_X12_netOf_72
        rw [nI_clamp hj, k1, bitM (by omega) (by omega), ll.2.2 i hi, nI_add]
        exact ⟨v8, bt rfl (kk _ rfl)⟩
      · rintro M2 K rfl
        unfold wb_X12_netOf_72
        rw [nI_clamp hj, k1, bitM (by omega) (by omega), ll.2.1]
        exact ⟨v8, bf ne10 ⟨rfl, Inv_sc h f⟩⟩
  · have i3 : ∀ Q : Int32 → wM → Prop, Q (-1) Mm → w_X12_netOf (nI j) x2 Mm Q := fun Q q => i1 _ (bf ne10 (in_f (by decide) (hi_N (by decide)) c2 (bt rfl q)))
    have nx2 : ∀ k, k < 4 → ¬ x2 = nI k := fun k hk y => c2 (by rw [y, nI_toInt (by omega)]; omega)
    exact bf (nx2 0 (by decide)) (bf (nx2 1 (by decide)) (bf (nx2 2 (by decide)) (bf (nx2 3 (by decide)) (i3 _ ⟨rfl, h⟩))))
theorem law_chipOf (x1 x2 : Int32) (Mx Mm : wM) (h : Inv Mx Mm) : w_X11_chipOf x1 x2 Mx (fun r A => w_X12_chipOf x1 x2 Mm (fun r2 B => r = r2 ∧ Inv A B)) := by
  obtain ⟨nc, nn, h1, h8, e1, e2, e5, e6, hc⟩ := Inv_cf h
  have nf := Inv_nf h h8 e5
  have b8 := p8 h8
  unfold w_X11_chipOf w_X0_has w_X12_chipOf w_X12_isChip
  rw [e1, e2]
  by_cases c : 0 ≤ x1.toInt ∧ x1.toInt < nc
  · obtain ⟨j, hj, rfl, ej⟩ := nI_ex (x := x1) c.1
    have j6 : j < nc := by omega
    have v6 : vp_in (nI j) 6 := vp_in_nI (by omega) (by decide)
    have cf := hc j j6
    obtain ⟨cP, pr, cr, cL, cN, cO, cI, cR, cW, cT, cU, cB, cD, cC, cA⟩ := id cf
    have r1 := cr.2.1
    refine bf (by rw [lt_n (by decide)]; omega) (bf (by rw [n_le (by omega)]; omega) (bf ne10 ⟨v6, ?_⟩))
    rw [nI_clamp (n := j) hj]
    by_cases c2 : 0 ≤ x2.toInt ∧ x2.toInt ≤ 5
    · obtain ⟨w, hw, rfl, ew⟩ := nI_ex (x := x2) c2.1
      have i1 : ∀ P : Int32 → wM → Prop, P (nI 1) Mm → w_X12_in (nI j).toInt64 (lN 0) (nI nc - nI 1).toInt64 Mm P := fun P p => in_t (by decide) (hi_S (by omega)) (by omega) p
      have i2 : ∀ P : Int32 → wM → Prop, P (nI 1) Mm → w_X12_in (nI w).toInt64 (lN 0) (lN 5) Mm P := fun P p => in_t (by decide) (hi_N (by decide)) c2 p
      have ol : bld (ownB Mx nc) 8 < 256 := bld_lt _ 8
      obtain ⟨lv8, hv, -⟩ := lvR_bit nf ol
      rcases (show w = 0 ∨ w = 1 ∨ w = 2 ∨ w = 3 ∨ w = 4 ∨ w = 5 by omega) with rfl | rfl | rfl | rfl | rfl | rfl
      · exact bt rfl (i1 _ ⟨Or.inr rfl, bf ne10 (i2 _ (bf ne10 (bt rfl ⟨v6, cP.2.2.1.trans cP.2.2.2.symm, h⟩)))⟩)
      · exact bf (by decide) (bt rfl (i1 _ ⟨Or.inr rfl, bf ne10 (i2 _ (bf ne10 (bf (by decide) (bt rfl ⟨v6, cR.1.trans cR.2.symm, h⟩))))⟩))
      · exact bf (by decide) (bf (by decide) (bt rfl (i1 _ ⟨Or.inr rfl, bf ne10 (i2 _ (bf ne10 (bf (by decide) (bf (by decide) (bt rfl ⟨v6, cW.1.trans cW.2.symm, h⟩)))))⟩)))
      · have p3 := plr_lt (xR Mx j)
        refine bf (by decide) (bf (by decide) (bf (by decide) (bt rfl (regPl (by omega) cR.1 r1 ⟨vp_in_nI p3 (by decide), i1 _ ⟨Or.inr rfl, bf ne10 (i2 _ (bf ne10 (bf (by decide) (bf (by decide) (bf (by decide) (bt rfl (rowM (by omega) cR.2 r1 ⟨?_, h⟩)))))))⟩⟩))))
        rw [nI_clamp (by omega)]
        rcases (show xR Mx j = 0 ∨ xR Mx j = 1 ∨ 2 ≤ xR Mx j by omega) with z | z | z
        · rw [z, show plr 0 = 0 from rfl]; exact cB.1.trans cB.2.symm
        · rw [z, show plr 1 = 1 from rfl]; exact cD
        · rw [show plr (xR Mx j) = 2 from if_neg (by omega)]; exact cC.1.trans cC.2.symm
      · exact bf (by decide) (bf (by decide) (bf (by decide) (bf (by decide) (bt rfl (i1 _ ⟨Or.inr rfl, bf ne10 (i2 _ (bf ne10 (bf (by decide) (bf (by decide) (bf (by decide) (bf (by decide) (bt rfl ⟨v6, cT.1.trans cT.2.symm, h⟩)))))))⟩)))))
      · exact bf (by decide) (bf (by decide) (bf (by decide) (bf (by decide) (bf (by decide) (bt rfl (ownX h1 h8 e1 hc (levX nf ol rfl (fun _ => rfl) (ftfX h8 cf ⟨rfl, fun _ => rfl, fun _ => rfl, fun _ => rfl⟩ (by omega) lv8 (i1 _ ⟨Or.inr rfl, bf ne10 (i2 _ (bf ne10 (bf (by decide) (bf (by decide) (bf (by decide) (bf (by decide) (bf (by decide) (ftfM h h1 h8 e1 e5 j6 hv (fun M' f => ⟨rfl, Inv_sc h f⟩)))))))))⟩)))))))))
    · have w : ∀ P : Int32 → wM → Prop, P (nI 0) Mm → w_X12_in x2.toInt64 (lN 0) (lN 5) Mm P := fun P p => in_f (by decide) (hi_N (by decide)) c2 p
      have nx2 : ∀ k, k < 6 → ¬ x2 = nI k := fun k hk y => c2 (by rw [y, nI_toInt (by omega)]; omega)
      exact bf (nx2 0 (by decide)) (bf (nx2 1 (by decide)) (bf (nx2 2 (by decide)) (bf (nx2 3 (by decide)) (bf (nx2 4 (by decide)) (bf (nx2 5 (by decide)) (in_t (by decide) (hi_S (by omega)) (by omega) ⟨Or.inr rfl, bf ne10 (w _ (bt rfl ⟨rfl, h⟩))⟩))))))
  · have w : ∀ P : Int32 → wM → Prop, P (nI 0) Mm → w_X12_in x1.toInt64 (lN 0) (nI nc - nI 1).toInt64 Mm P := fun P p => in_f (by decide) (hi_S (by omega)) (by omega) p
    refine bc (fun y => bt rfl (w _ ⟨Or.inl rfl, bt rfl ⟨rfl, h⟩⟩)) (fun y => bc (fun z => bt rfl (w _ ⟨Or.inl rfl, bt rfl ⟨rfl, h⟩⟩)) (fun z => ?_))
    rw [lt_n (by decide)] at y
    rw [n_le (by omega)] at z
    omega
