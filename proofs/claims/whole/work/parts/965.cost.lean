/-! cost -/
theorem far_1 : (aimL 11).1.getD 1 0 = nI 4 ∧ (aimL 1).1.getD 12 0 = nI 2 ∧ (aimL 4).1.getD 1 0 = nI 3 ∧ (aimL 1).1.getD 5 0 = nI 2 := by decide +kernel
theorem scT {n : Nat} {M : wM} {Q : Int32 → wM → Prop} (q : ∀ M' : wM, o28 M M' → Q (nI (n + 6)) M') : w_X0_scanTicks (nI 1) (nI n) M Q := by
  refine bf ne10 (aimX (b := 11) (by decide) (fun A r o => ⟨vp_in_nI (by decide) (by decide), aimX (b := 1) (by decide) (fun B r2 o2 => bf ne10 ⟨vp_in_nI (by decide) (by decide), ?_⟩)⟩))
  have e1 : gi A 28 (nI 1).toNatClampNeg = nI 4 := ((r.2.2 1 (by decide)).1).trans far_1.1
  have e2 : gi B 28 (nI 12).toNatClampNeg = nI 2 := ((r2.2.2 12 (by decide)).1).trans far_1.2.1
  rw [e1, e2, nI_add, nI_add, show 4 + n + 2 = n + 6 by omega]
  exact q B (o28_trans o o2)
theorem scF {n : Nat} {M : wM} {Q : Int32 → wM → Prop} (q : ∀ M' : wM, o28 M M' → Q (nI (n + 5)) M') : w_X0_scanTicks (nI 0) (nI n) M Q := by
  refine bt rfl (aimX (b := 4) (by decide) (fun A r o => ⟨vp_in_nI (by decide) (by decide), aimX (b := 1) (by decide) (fun B r2 o2 => bt rfl ⟨vp_in_nI (by decide) (by decide), ?_⟩)⟩))
  have e1 : gi A 28 (nI 1).toNatClampNeg = nI 3 := ((r.2.2 1 (by decide)).1).trans far_1.2.2.1
  have e2 : gi B 28 (nI 5).toNatClampNeg = nI 2 := ((r2.2.2 5 (by decide)).1).trans far_1.2.2.2
  rw [e1, e2, nI_add, nI_add, show 3 + n + 2 = n + 5 by omega]
  exact q B (o28_trans o o2)
theorem costM {M : wM} {nc : Nat} {f : Nat → Nat} {x1 : Int32} {Q : Int32 → wM → Prop} (hn : nc ≤ 6) (e : gi M 0 22 = nI nc) (hc : ∀ c, c < nc → ∃ p : Nat, p < 6 ∧ gi M 14 c = nI p ∧ ((gi M 4 p = -4 ∧ f c = 1) ∨ (¬ gi M 4 p = -4 ∧ gi M 5 p = nI (f c)))) (q : w_X12_lengths M (fun r7 M8 => w_X12_rowsOf x1 M8 (fun r9 M10 => Q ((r7 + (nI 6)) + ((r9 + (nI 1)) * (nI (sm f nc) + (nI 5)))) M10))) : ∃ n, wL_X12_cost_35 x1 Q n (nI 0) (nI 0) M := by
  have key : ∀ k i, i + k = nc → wL_X12_cost_35 x1 Q (k + 1) (nI (sm f i)) (nI i) M := by
    intro k
    induction k with
    | zero =>
      intro i hi
      obtain rfl : i = nc := by omega
      show wb_X12_cost_35 _ _ _ _ M Q
      unfold wb_X12_cost_35
      rw [e]
      exact bt (nI_le (by omega) (by omega)) q
    | succ k ih =>
      intro i hi
      have ih2 := ih (i + 1) (by omega)
      obtain ⟨p, p1, p2, p3⟩ := hc i (by omega)
      show wb_X12_cost_35 x1 (wL_X12_cost_35 x1 Q (k + 1)) _ _ M Q
      unfold wb_X12_cost_35
      rw [e, nI_clamp (n := i) (by omega), p2, nI_clamp (n := p) (by omega)]
      have v6 : vp_in (nI i) 6 := vp_in_nI (by omega) (by decide)
      have w6 : vp_in (nI p) 6 := vp_in_nI p1 (by decide)
      refine bf (nI_ge (by omega) (by omega)) ⟨v6, w6, ?_⟩
      rw [show sm f (i + 1) = sm f i + f i from rfl] at ih2
      rcases p3 with ⟨c1, c2⟩ | ⟨c1, c2⟩
      · refine bt c1 ?_
        rw [c2] at ih2
        rw [nI_add, nI_add]
        exact ih2
      · refine bf c1 ⟨v6, w6, ?_⟩
        rw [c2, nI_add, nI_add]
        exact ih2
  exact ⟨nc + 1, key nc 0 (by omega)⟩
def tbC (X : wM) (c : Nat) : Nat := if gi X (gp X c) 4 = -4 then 1 else celC X c
theorem law_cost (x1 : Int32) (Mx Mm : wM) (h : Inv Mx Mm) : w_X11_cost x1 Mx (fun r A => w_X12_cost x1 Mm (fun r2 B => r = r2 ∧ Inv A B)) := by
  obtain ⟨nc, np, nn, h1, h2, h3, e1, e2, e3, e4, e5, e6, hc⟩ := Inv_nc h
  unfold w_X11_cost w_X12_cost
  refine isSort_w (fun c1 => bf ne10 ?_) (fun c1 => bt rfl (in_f (by decide) (hi_N (by decide)) c1 (bt rfl ⟨rfl, h⟩)))
  have z2 : ∀ {p : Prop}, (gi Mx 26 3 = nI 0 ↔ gi Mm 0 22 = nI 0) := by intro _; rw [e1, e2]
  refine bc (fun z => in_t (by decide) (hi_N (by decide)) c1 (bf ne10 (bt (by rw [e2, ← e1]; exact z) ⟨rfl, h⟩))) (fun z => bc (fun w => in_t (by decide) (hi_N (by decide)) c1 (bf ne10 (bf (by rw [e2, ← e1]; exact z) (bt (by rw [e6, ← e5]; exact w) ⟨rfl, h⟩)))) (fun w => ?_))
  obtain ⟨s, hs, rfl, es⟩ := nI_ex (x := x1) c1.1
  have hll : ∀ c, c < nc → ptX (gp Mx c) ∧ gi Mx (gp Mx c) 0 = nI (lenC Mx c) := by
    intro c hcc
    obtain ⟨p, L, n, o, idv, sa, ex, ord, orow, lat, opn, br, cr, k1, pr, cr2, k4, k5, k6, k7, k8⟩ := hc c hcc
    have n10 := pr.2.1
    unfold lenC
    rw [k4, k6.1.1, nI_clamp (by omega)]
    exact ⟨pt_part p (by omega), rfl⟩
  refine ordbX h1 e1 hll (scT (fun A o => ?_))
  refine tstX (f := tbC Mx) h1 ((o.1 26 3 (by decide) (by decide)).trans e1) (fun c hcc => ?_) (scF (fun B o2 => ?_))
  · obtain ⟨p, L, n, o', idv, sa, ex, ord, orow, lat, opn, br, cr, k1, pr, cr2, k4, k5, k6, k7, k8⟩ := hc c hcc
    have n10 := pr.2.2.1
    rw [o.2 c, k4, o.1 (65 + p) 4 (by omega) (by omega), o.1 (65 + p) 1 (by omega) (by omega)]
    refine ⟨pt_part p (by omega), ?_⟩
    unfold tbC celC
    rw [k4]
    by_cases y : gi Mx (65 + p) 4 = -4
    · exact Or.inl ⟨y, if_pos y⟩
    · refine Or.inr ⟨y, ?_⟩
      rw [if_neg y, k6.2.1.1, nI_clamp (by omega)]
  · have oo := o28_trans o o2
    refine rcX (by omega) h3 ((oo.1 12 0 (by decide) (by decide)).trans e5) ?_
    refine in_t (by decide) (hi_N (by decide)) c1 (bf ne10 (bf (by rw [e2, ← e1]; exact z) (bf (by rw [e6, ← e5]; exact w) ?_)))
    refine costM (f := tbC Mx) h1 e2 (fun c hcc => ?_) (lenM (f := lenC Mx) (P := fun c => (gi Mm 14 c).toNatClampNeg) h1 e2 (fun c hcc => ?_) (rcM (by omega) h3 e6 ⟨?_, Inv_path h oo o36_refl⟩))
    · obtain ⟨p, L, n, o', idv, sa, ex, ord, orow, lat, opn, br, cr, k1, pr, cr2, k4, k5, k6, k7, k8⟩ := hc c hcc
      have n10 := pr.2.2.1
      refine ⟨p, by omega, k5.2, ?_⟩
      unfold tbC celC
      rw [k4, k6.2.2.2.2.2.1, k6.2.2.2.2.2.2]
      by_cases y : ex = -4
      · exact Or.inl ⟨y, if_pos y⟩
      · refine Or.inr ⟨y, ?_⟩
        rw [if_neg y, k6.2.1.1, nI_clamp (by omega)]
        exact k6.2.1.2
    · obtain ⟨p, L, n, o', idv, sa, ex, ord, orow, lat, opn, br, cr, k1, pr, cr2, k4, k5, k6, k7, k8⟩ := hc c hcc
      have n10 := pr.2.1
      unfold lenC
      rw [k5.2, nI_clamp (by omega), k4, k6.1.1, nI_clamp (by omega)]
      exact ⟨by omega, rfl, k6.1.2⟩
    · rw [nI_add (sm (lenC Mx) nc) 6, nI_add (sm (tbC Mx) nc) 5]
