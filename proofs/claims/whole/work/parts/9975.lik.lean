/-! likely -/
theorem Inv_kS {A A' M : wM} (h : Inv A M) (k : kS A A') : Inv A' M :=
  Inv_fr (T := [54, 59, 60, 61, 62]) (S := []) h ⟨fun a j q => k.1 a j (by
    by_cases z : a < 59 ∨ 62 < a
    · exact z
    · exfalso
      refine q ?_
      rcases (show a = 59 ∨ a = 60 ∨ a = 61 ∨ a = 62 by omega) with rfl | rfl | rfl | rfl <;> simp [cX]) (Or.inl (fun z => q (by rw [z]; simp [cX]))), k.2⟩ sM_refl
theorem Inv_kQ {X M M' : wM} (h : Inv X M) (k : kQ M M') : Inv X M' :=
  Inv_fr (T := []) (S := [29, 30, 31, 32, 33, 34, 35, 36, 37, 1048, 1049]) h sX_refl (fun a j q => k a j (by
    by_cases z : a < 29 ∨ 37 < a
    · exact z
    · exfalso
      refine q ?_
      rcases (show a = 29 ∨ a = 30 ∨ a = 31 ∨ a = 32 ∨ a = 33 ∨ a = 34 ∨ a = 35 ∨ a = 36 ∨ a = 37 by omega) with rfl | rfl | rfl | rfl | rfl | rfl | rfl | rfl | rfl <;> simp [cM]) (by
    by_cases z : a = 0
    · right
      subst z
      exact ⟨fun y => q (by rw [y]; simp [cM]), fun y => q (by rw [y]; simp [cM])⟩
    · exact Or.inl z))
noncomputable def okB (X : wM) (s nn : Nat) (x y : Int32) : Bool := @decide (okP X s nn x y) (Classical.propDecidable _)
theorem okB_ok (X : wM) (s nn : Nat) (x y : Int32) (_ : gdP nn x y) : okB X s nn x y = true ↔ okP X s nn x y := ⟨fun h => @of_decide_eq_true _ (Classical.propDecidable _) h, fun h => @decide_eq_true _ (Classical.propDecidable _) h⟩
theorem lt_nn {a b : Nat} (ha : a < 2 ^ 31) (hb : b < 2 ^ 31) : nI a < nI b ↔ a < b := by
  rw [lt_n hb, nI_toInt ha]
  omega
theorem law_likely (x1 x2 : Int32) (Mx Mm : wM) (h : Inv Mx Mm) : w_X11_likely x1 x2 Mx (fun r A => w_X12_likely x1 x2 Mm (fun r2 B => r = r2 ∧ Inv A B)) := by
  obtain ⟨nc, nn, h1, h8, -, -, e5, e6, -⟩ := Inv_cf h
  have nf := Inv_nf h h8 e5
  have o := (off_ok nn (by omega)).2.2
  unfold w_X11_likely
  refine isSort_w (fun c1 => bf ne10 ?_) (fun c1 => bt rfl (in_f (by decide) (hi_N (by decide)) c1 (bt rfl ⟨rfl, h⟩)))
  obtain ⟨s, hs, rfl, es⟩ := nI_ex (x := x1) c1.1
  have s3 : s < 3 := by omega
  have imY : ∀ Q : Int32 → wM → Prop, ((0 ≤ x2.toInt ∧ x2.toInt ≤ 1) ∨ (10000 ≤ x2.toInt ∧ x2.toInt ≤ 29999)) → wj_X12_likely_38 (nI s) x2 Mm Q → w_X12_likely (nI s) x2 Mm Q := by
    intro Q c q
    unfold w_X12_likely
    refine in_t (by decide) (hi_N (by decide)) c1 (bf ne10 ?_)
    by_cases z : 0 ≤ x2.toInt ∧ x2.toInt ≤ 1
    · exact in_t (by decide) (hi_N (by decide)) z (bf ne10 q)
    · exact in_f (by decide) (hi_N (by decide)) z (bt rfl (in_t (by decide) (hi_N (by decide)) (c.resolve_left z) (bf ne10 q)))
  have imN : ∀ Q : Int32 → wM → Prop, ¬ ((0 ≤ x2.toInt ∧ x2.toInt ≤ 1) ∨ (10000 ≤ x2.toInt ∧ x2.toInt ≤ 29999)) → Q (-1) Mm → w_X12_likely (nI s) x2 Mm Q := by
    intro Q c q
    unfold w_X12_likely
    exact in_t (by decide) (hi_N (by decide)) c1 (bf ne10 (in_f (by decide) (hi_N (by decide)) (fun z => c (Or.inl z)) (bt rfl (in_f (by decide) (hi_N (by decide)) (fun z => c (Or.inr z)) (bt rfl q)))))
  have main : (0 ≤ x2.toInt ∧ x2.toInt ≤ 1) ∨ 10000 ≤ x2.toInt → wj_X11_likely_25 (nI s) x2 Mx (fun r A => w_X12_likely (nI s) x2 Mm (fun r2 B => r = r2 ∧ Inv A B)) := by
    intro c
    obtain ⟨k, hk, rfl, ek⟩ := nI_ex (x := x2) (by omega)
    unfold wj_X11_likely_25
    rw [e5]
    refine bc (fun z => ?_) (fun z => ?_)
    · refine bc (fun y => ?_) (fun y => ?_)
      · rw [n_lt (by decide)] at y
        by_cases c2 : 10000 ≤ (nI k).toInt ∧ (nI k).toInt ≤ 29999
        · refine imY _ (Or.inr c2) ?_
          unfold wj_X12_likely_38
          rw [e6]
          exact bt z (bt (by rw [n_le (by decide)]; omega) ⟨rfl, h⟩)
        · exact imN _ (by omega) ⟨rfl, h⟩
      · rw [n_lt (by decide)] at y
        refine imY _ (Or.inl (by omega)) ?_
        unfold wj_X12_likely_38
        rw [e6]
        exact bt z (bf (by rw [n_le (by decide)]; omega) ⟨rfl, h⟩)
    · refine prepX s3 nf (fun A p => seekX (ok := okB Mx s nn) s3 nf p (okB_ok Mx s nn) (fun A2 k2 ls e9 => ?_))
      have ip : Inv A2 Mm := Inv_kS (Inv_pr h p) k2
      have ll := lkL_len (ok := okB Mx s nn) h8
      have nn4 : lkN (okB Mx s nn) (nn * (nn + 1)) < 4 := by
        unfold lkN
        split
        · split <;> decide
        · decide
      have im2 : ∀ Q : Int32 → wM → Prop, ((0 ≤ (nI k).toInt ∧ (nI k).toInt ≤ 1) ∨ (10000 ≤ (nI k).toInt ∧ (nI k).toInt ≤ 29999)) → (∀ M13 : wM, Inv A2 M13 → MS nn M13 (lkL (okB Mx s nn) (nn * (nn + 1))) → gi M13 0 49 = nI (lkN (okB Mx s nn) (nn * (nn + 1))) → ((nI 2) ≤ (nI k) → ((nI k - nI k / (nI 10000) * (nI 10000)) < (gi M13 0 48) → ((nI 20000) ≤ (nI k) → vp_in (nI k - nI k / (nI 10000) * (nI 10000)) 2600 ∧ (Q (gi M13 34 (nI k - nI k / (nI 10000) * (nI 10000)).toNatClampNeg) M13)) ∧ (¬ (nI 20000) ≤ (nI k) → vp_in (nI k - nI k / (nI 10000) * (nI 10000)) 2600 ∧ (Q (gi M13 33 (nI k - nI k / (nI 10000) * (nI 10000)).toNatClampNeg) M13))) ∧ (¬ (nI k - nI k / (nI 10000) * (nI 10000)) < (gi M13 0 48) → Q (-1) M13)) ∧ (¬ (nI 2) ≤ (nI k) → (nI k = (nI 1) → Q (gi M13 0 48) M13) ∧ (¬ nI k = (nI 1) → ((gi M13 0 48) = (nI 0) → Q (-4) M13) ∧ (¬ (gi M13 0 48) = (nI 0) → Q (gi M13 0 49) M13)))) → w_X12_likely (nI s) (nI k) Mm Q := by
        intro Q c q
        refine imY Q c ?_
        unfold wj_X12_likely_38
        rw [e6]
        exact bf z (seekM (ok := okB Mx s nn) s3 nf h e6 (okB_ok Mx s nn) (fun M2 kq ms e10 => q M2 (Inv_kS (Inv_pr (Inv_kQ h kq) p) k2) ms e10))
      generalize lkL (okB Mx s nn) (nn * (nn + 1)) = L at ls ll im2
      generalize lkN (okB Mx s nn) (nn * (nn + 1)) = N at e9 nn4 im2
      rw [nI_toInt hk] at c im2 imN
      rw [ls.1, e9]
      have tail : ∀ (z3 : Nat), z3 < 2 → (z3 = 0 → k < 20000) → (z3 = 1 → 20000 ≤ k) → 10000 ≤ k → wj_X11_likely_129 (nI z3) (nI k) (nI (10000 + 10000 * z3)) A2 (fun r A => w_X12_likely (nI s) (nI k) Mm (fun r2 B => r = r2 ∧ Inv A B)) := by
        intro z3 t1 t2 t3 t4
        unfold wj_X11_likely_129
        rw [ls.1, pk_sub (by omega), lt_nn (by omega) (by omega), nI_clamp (n := k - (10000 + 10000 * z3)) (by omega)]
        refine bc (fun y => ?_) (fun y => ?_)
        · obtain ⟨pq, hp⟩ : ∃ pq, L[k - (10000 + 10000 * z3)]? = some pq := ⟨_, List.getElem?_eq_getElem y⟩
          obtain ⟨u, w⟩ := pq
          obtain ⟨a1, a2, -⟩ := ls.2 _ u w hp
          have v : vp_in (nI (k - (10000 + 10000 * z3))) 2556 := vp_in_nI (by omega) (by decide)
          have v2 : vp_in (nI (k - (10000 + 10000 * z3))) 2600 := vp_in_nI (by omega) (by decide)
          rw [a1, a2]
          rcases (show z3 = 0 ∨ z3 = 1 by omega) with rfl | rfl
          · refine bt rfl ⟨v, im2 _ (Or.inr (by omega)) (fun M13 i13 ms e10 => ?_)⟩
            obtain ⟨b1, b2, -⟩ := ms.2 _ u w hp
            rw [pk_rem hk (by decide) (by decide), ms.1, show k % 10000 = k - (10000 + 10000 * 0) by omega, lt_nn (by omega) (by omega), nI_clamp (n := k - (10000 + 10000 * 0)) (by omega), b1]
            exact bt (nI_le (by omega) (by omega)) (bt y (bf (nI_ge (by omega) (by decide)) ⟨v2, rfl, i13⟩))
          · refine bf (by decide) ⟨v, im2 _ (Or.inr (by omega)) (fun M13 i13 ms e10 => ?_)⟩
            obtain ⟨b1, b2, -⟩ := ms.2 _ u w hp
            rw [pk_rem hk (by decide) (by decide), ms.1, show k % 10000 = k - (10000 + 10000 * 1) by omega, lt_nn (by omega) (by omega), nI_clamp (n := k - (10000 + 10000 * 1)) (by omega), b2]
            exact bt (nI_le (by omega) (by omega)) (bt y (bt (nI_le (by omega) (by omega)) ⟨v2, rfl, i13⟩))
        · by_cases c2 : k ≤ 29999
          · refine im2 _ (Or.inr (by omega)) (fun M13 i13 ms e10 => ?_)
            rw [pk_rem hk (by decide) (by decide), ms.1, show k % 10000 = k - (10000 + 10000 * z3) by omega, lt_nn (by omega) (by omega)]
            exact bt (nI_le (by omega) (by omega)) (bf y ⟨rfl, i13⟩)
          · exact imN _ (by omega) ⟨rfl, ip⟩
      refine bc (fun y => ?_) (fun y => bc (fun w => ?_) (fun w => ?_))
      · have k0 : k = 0 := inj31 y hk (by decide)
        have fin : ∀ v, (L.length = 0 → v = -4) → (¬ L.length = 0 → v = nI N) → w_X12_likely (nI s) (nI k) Mm (fun r2 B => v = r2 ∧ Inv A2 B) := by
          intro v v1 v2
          refine im2 _ (Or.inl (by omega)) (fun M13 i13 ms e10 => ?_)
          rw [ms.1, e10]
          exact bf (nI_ge (by omega) (by decide)) (bf (by rw [y]; decide) (bc (fun u => ⟨v1 (inj31 u (by omega) (by decide)), i13⟩) (fun u => ⟨v2 (fun u2 => u (by rw [u2])), i13⟩)))
        exact bc (fun u => fin _ (fun _ => rfl) (fun u2 => absurd (inj31 u (by omega) (by decide)) u2)) (fun u => fin _ (fun u2 => absurd (by rw [u2]) u) (fun _ => rfl))
      · have k1 : k = 1 := inj31 w hk (by decide)
        refine im2 _ (Or.inl (by omega)) (fun M13 i13 ms e10 => ?_)
        rw [ms.1]
        exact bf (nI_ge (by omega) (by decide)) (bt w ⟨rfl, i13⟩)
      · have k2 : 2 ≤ k := by
          rcases (show k = 0 ∨ k = 1 ∨ 2 ≤ k by omega) with rfl | rfl | t
          · exact absurd rfl y
          · exact absurd rfl w
          · exact t
        refine bc (fun u => bt rfl (tail 0 (by decide) (fun _ => ?_) (fun t => by omega) (by omega))) (fun u => bf (by decide) (tail 1 (by decide) (fun t => by omega) (fun _ => ?_) (by omega)))
        · rw [lt_nn hk (by decide)] at u
          exact u
        · rw [lt_nn hk (by decide)] at u
          omega
  refine bc (fun z => ?_) (fun z => bc (fun y => main (Or.inl ?_)) (fun y => bc (fun w => main (Or.inr ?_)) (fun w => ?_)))
  · rw [lt_n (by decide)] at z
    exact imN _ (by omega) ⟨rfl, h⟩
  · rw [lt_n (by decide)] at z
    rw [le_n (by decide)] at y
    omega
  · rw [n_le (by decide)] at w
    exact w
  · rw [lt_n (by decide)] at z
    rw [le_n (by decide)] at y
    rw [n_le (by decide)] at w
    exact imN _ (by omega) ⟨rfl, h⟩
