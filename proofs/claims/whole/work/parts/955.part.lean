/-! part, chip -/
section PART
variable {p np n w : Nat} {x1 x2 : Int32} {M : wM} {Q : Int32 → wM → Prop}
theorem partM_b (hnp : np ≤ 6) (e0 : gi M 0 0 = nI np) (c : ¬ (0 ≤ x1.toInt ∧ x1.toInt < np)) (q : Q (-1) M) : w_X12_part x1 x2 M Q := by
  unfold w_X12_part
  rw [e0]
  exact in_f (by decide) (hi_S (by omega)) (by omega) (bt rfl q)
theorem partM_t (hnp : np ≤ 6) (e0 : gi M 0 0 = nI np) (hp : p < np) (e5 : gi M 5 p = nI n) (hn : n ≤ 10) (hw : w ≤ 5 ∨ (10 ≤ w ∧ w < 10 + n)) (q : wj_X12_part_51 (nI p) (nI w) M Q) : w_X12_part (nI p) (nI w) M Q := by
  unfold w_X12_part
  rw [e0]
  refine in_t (by decide) (hi_S (by omega)) (by rw [nI_toInt (by omega)]; omega) (bf ne10 ?_)
  by_cases h5 : w ≤ 5
  · exact in_t (by decide) (hi_N (by decide)) (by rw [nI_toInt (by omega)]; omega) (bf ne10 q)
  · refine in_f (by decide) (hi_N (by decide)) (by rw [nI_toInt (by omega)]; omega) (bt rfl ⟨vp_in_nI (by omega) (by decide), ?_⟩)
    rw [nI_clamp (by omega), e5, nI_add]
    exact in_t (by decide) (hi_I (by omega)) (by rw [nI_toInt (by omega)]; omega) (bf ne10 q)
theorem partM_f (hnp : np ≤ 6) (e0 : gi M 0 0 = nI np) (hp : p < np) (e5 : gi M 5 p = nI n) (hn : n ≤ 10) (hw : ¬ ((0 ≤ x2.toInt ∧ x2.toInt ≤ 5) ∨ (10 ≤ x2.toInt ∧ x2.toInt < 10 + n))) (q : Q (-1) M) : w_X12_part (nI p) x2 M Q := by
  unfold w_X12_part
  rw [e0]
  refine in_t (by decide) (hi_S (by omega)) (by rw [nI_toInt (by omega)]; omega) (bf ne10 (in_f (by decide) (hi_N (by decide)) (by omega) (bt rfl ⟨vp_in_nI (by omega) (by decide), ?_⟩)))
  rw [nI_clamp (by omega), e5, nI_add]
  exact in_f (by decide) (hi_I (by omega)) (by omega) (bt rfl q)
end PART
theorem law_part (x1 x2 : Int32) (Mx Mm : wM) (h : Inv Mx Mm) : w_X11_part x1 x2 Mx (fun r A => w_X12_part x1 x2 Mm (fun r2 B => r = r2 ∧ Inv A B)) := by
  obtain ⟨np, hnp, e1, e2, hk⟩ := h.2.2.1
  unfold w_X11_part
  rw [e1]
  by_cases c1 : 0 ≤ x1.toInt ∧ x1.toInt < np
  · obtain ⟨p, hp, rfl, ep⟩ := nI_ex (x := x1) c1.1
    have pn : p < np := by omega
    obtain ⟨L, n, o, idv, sa, ex, pr, a0, a1, a5, a2, a3, a4⟩ := hk p pn
    have n10 := pr.2.2.1
    have ho := pr.2.2.2.1
    have h10 := p10 n10
    have v6 : vp_in (nI p) 6 := vp_in_nI (by omega) (by decide)
    refine bf (by rw [lt_n (by decide)]; omega) (bt (by rw [lt_n (by omega)]; omega) ⟨v6, ?_⟩)
    rw [nI_clamp hp, a0.1, a1.1, a2.1, a3.1, a4.1, a5.1]
    have go : ∀ (w : Nat) (r : Int32), (w ≤ 5 ∨ (10 ≤ w ∧ w < 10 + n)) → wj_X12_part_51 (nI p) (nI w) Mm (fun r2 B => r = r2 ∧ Inv Mx B) → w_X12_part (nI p) (nI w) Mm (fun r2 B => r = r2 ∧ Inv Mx B) := fun w r hw q => partM_t hnp e2 pn a1.2 n10 hw q
    refine bc (fun z => ?_) (fun z0 => bc (fun z => ?_) (fun z1 => bc (fun z => ?_) (fun z2 => bc (fun z => ?_) (fun z3 => bc (fun z => ?_) (fun z4 => bc (fun z => ?_) (fun z5 => ?_))))))
    · rw [z]
      refine go 0 _ (Or.inl (by decide)) (bt rfl ⟨v6, ?_⟩)
      rw [nI_clamp hp, a0.2]; exact ⟨rfl, h⟩
    · rw [z]
      refine go 1 _ (Or.inl (by decide)) (bf (by decide) (bt rfl ⟨v6, ?_⟩))
      rw [nI_clamp hp, a2.2]; exact ⟨rfl, h⟩
    · rw [z]
      refine go 2 _ (Or.inl (by decide)) (bf (by decide) (bf (by decide) (bt rfl ⟨v6, ?_⟩)))
      rw [nI_clamp hp, a3.2]; exact ⟨rfl, h⟩
    · rw [z]
      refine go 3 _ (Or.inl (by decide)) (bf (by decide) (bf (by decide) (bf (by decide) (bt rfl ⟨v6, ?_⟩))))
      rw [nI_clamp hp, a4.2]; exact ⟨rfl, h⟩
    · rw [z]
      refine go 4 _ (Or.inl (by decide)) (bf (by decide) (bf (by decide) (bf (by decide) (bf (by decide) (bt rfl ⟨v6, ?_⟩)))))
      rw [nI_clamp hp, a1.2]; exact ⟨rfl, h⟩
    · rw [z]
      refine bitC (by omega) (go 5 _ (Or.inl (by decide)) (bf (by decide) (bf (by decide) (bf (by decide) (bf (by decide) (bf (by decide) (bt rfl ⟨v6, ?_⟩)))))))
      rw [nI_clamp hp, a5.2]; exact bitsM (by omega) ⟨rfl, h⟩
    · rw [eq_n (by decide)] at z0 z1 z2 z3 z4 z5
      refine bc (fun z => partM_f hnp e2 pn a1.2 n10 (by rw [lt_n (by decide)] at z; omega) ⟨rfl, h⟩) (fun z => ?_)
      rw [lt_n (by decide)] at z
      obtain ⟨w, hw, rfl, ew⟩ := nI_ex (x := x2) (by omega)
      rw [pk_sub (by omega)]
      refine bc (fun y => partM_f hnp e2 pn a1.2 n10 ?_ ⟨rfl, h⟩) (fun y => ?_)
      · rw [nI_leI (by omega) (by omega)] at y
        omega
      · rw [nI_leI (by omega) (by omega)] at y
        unfold w_X11_bit
        rw [bitR (by omega) (by omega)]
        refine go w _ (Or.inr (by omega)) (bf (by rw [eq_n (by decide)]; omega) (bf (by rw [eq_n (by decide)]; omega) (bf (by rw [eq_n (by decide)]; omega) (bf (by rw [eq_n (by decide)]; omega) (bf (by rw [eq_n (by decide)]; omega) (bf (by rw [eq_n (by decide)]; omega) ⟨v6, ?_⟩))))))
        rw [nI_clamp hp, a5.2, pk_sub (by omega), bitS (by omega) (by omega)]
        exact ⟨rfl, h⟩
  · have f : w_X12_part x1 x2 Mm (fun r2 B => (-1 : Int32) = r2 ∧ Inv Mx B) := partM_b hnp e2 c1 ⟨rfl, h⟩
    refine bc (fun _ => f) (fun z => bf (fun w => ?_) f)
    rw [lt_n (by decide)] at z
    rw [lt_n (by omega)] at w
    omega
/-- the reference's feet of a new chip -/
theorem chipL {c : Nat} {M : wM} {Q : Int32 → wM → Prop} (hc : c < 6) (e : gi M 0 22 = nI c) (q : ∀ M' : wM, (∀ j, j < 10 → gi M' 23 (10 * c + j) = -4) → (∀ a' j, a' ≠ 23 ∨ j < 10 * c ∨ 10 * c + 10 ≤ j → gi M' a' j = gi M a' j) → w_X12_resets (nI c) M' (fun M15 => Q ((((gi M15 0 22) + (nI 1))) - (nI 1)) (si M15 0 22 ((gi M15 0 22) + (nI 1))))) : ∃ n, wL_X12_chip_112 Q n (nI 0) M := by
  have key : ∀ t i (M : wM), i + t = 10 → gi M 0 22 = nI c → (∀ M' : wM, (∀ j, i ≤ j → j < 10 → gi M' 23 (10 * c + j) = -4) → (∀ a' j, a' ≠ 23 ∨ j < 10 * c + i ∨ 10 * c + 10 ≤ j → gi M' a' j = gi M a' j) → w_X12_resets (nI c) M' (fun M15 => Q ((((gi M15 0 22) + (nI 1))) - (nI 1)) (si M15 0 22 ((gi M15 0 22) + (nI 1))))) → wL_X12_chip_112 Q (t + 1) (nI i) M := by
    intro t
    induction t with
    | zero =>
      intro i M hi e q
      show wb_X12_chip_112 _ (nI i) M Q
      unfold wb_X12_chip_112
      rw [e]
      exact bt (nI_le (by omega) (by omega)) (q M (fun j h1 h2 => by omega) (fun _ _ _ => rfl))
    | succ t ih =>
      intro i M hi e q
      show wb_X12_chip_112 (wL_X12_chip_112 Q (t + 1)) (nI i) M Q
      unfold wb_X12_chip_112
      rw [e, nI_mul, nI_add, nI_add, nI_clamp (by omega)]
      refine bf (nI_ge (by omega) (by omega)) ⟨vp_in_nI (by omega) (by omega), ?_⟩
      refine ih (i + 1) _ (by omega) (by rw [gi_ne (Or.inl (by decide))]; exact e) (fun M' h1 h2 => q M' (fun j g1 g2 => ?_) (fun a' j g => ?_))
      · by_cases hj : j = i
        · rw [h2 23 _ (Or.inr (Or.inl (by omega))), hj, gi_eq]
        · exact h1 j (by omega) g2
      · rw [h2 a' j (g.imp id (fun g => by omega)), gi_ne (g.imp id (fun g => by omega))]
  exact ⟨11, key 10 0 M (by omega) e (fun M' h1 h2 => q M' (fun j hj => h1 j (Nat.zero_le _) hj) (fun a' j g => h2 a' j (g.imp id (fun g => by omega))))⟩
