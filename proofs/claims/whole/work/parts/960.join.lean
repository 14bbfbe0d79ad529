/-! join -/
def fcn (g : Nat → Int32) (k : Nat) : Nat → Nat
  | 0 => 0
  | m + 1 => fcn g k m + (if g m = nI k then 1 else 0)
theorem fcn_le (g : Nat → Int32) (k m : Nat) : fcn g k m ≤ m := by
  induction m with
  | zero => exact Nat.le_refl _
  | succ m ih =>
    show fcn g k m + (if g m = nI k then 1 else 0) ≤ m + 1
    split <;> omega
theorem fcn_filter (g : Nat → Int32) (k m : Nat) : ((List.range m).filter (fun q => decide (g q = nI k))).length = fcn g k m := by
  induction m with
  | zero => rfl
  | succ m ih =>
    rw [List.range_succ, List.filter_append, List.length_append, ih]
    show _ = fcn g k m + (if g m = nI k then 1 else 0)
    congr 1
    by_cases h : g m = nI k
    · simp [h]
    · simp [h]
theorem fcn_congr {g g' : Nat → Int32} {k : Nat} : ∀ m, (∀ q, q < m → (g q = nI k ↔ g' q = nI k)) → fcn g k m = fcn g' k m
  | 0, _ => rfl
  | m + 1, h => by
    show fcn g k m + (if g m = nI k then 1 else 0) = fcn g' k m + (if g' m = nI k then 1 else 0)
    rw [fcn_congr m (fun q hq => h q (by omega))]
    congr 1
    by_cases z : g m = nI k
    · rw [if_pos z, if_pos ((h m (by omega)).mp z)]
    · rw [if_neg z, if_neg (fun y => z ((h m (by omega)).mpr y))]
theorem fcn_up {g g' : Nat → Int32} {k q0 : Nat} (h0 : ¬ g q0 = nI k) (h1 : g' q0 = nI k) : ∀ m, (∀ q, q < m → q ≠ q0 → g' q = g q) → fcn g' k m = fcn g k m + (if q0 < m then 1 else 0)
  | 0, _ => rfl
  | m + 1, h => by
    show fcn g' k m + (if g' m = nI k then 1 else 0) = fcn g k m + (if g m = nI k then 1 else 0) + (if q0 < m + 1 then 1 else 0)
    rw [fcn_up h0 h1 m (fun q hq => h q (by omega))]
    by_cases z : m = q0
    · subst z
      rw [if_pos h1, if_neg h0, if_neg (by omega), if_pos (by omega)]
    · rw [h m (by omega) z]
      by_cases y : q0 < m
      · rw [if_pos y, if_pos (show q0 < m + 1 by omega)]; omega
      · rw [if_neg y, if_neg (show ¬ q0 < m + 1 by omega)]; omega
theorem fcn_more {g : Nat → Int32} {k m : Nat} : ∀ d, (∀ q, m ≤ q → q < m + d → ¬ g q = nI k) → fcn g k (m + d) = fcn g k m
  | 0, _ => rfl
  | d + 1, h => by
    show fcn g k (m + d) + (if g (m + d) = nI k then 1 else 0) = _
    rw [if_neg (h (m + d) (by omega) (by omega)), fcn_more d (fun q h1 h2 => h q h1 (by omega))]
    rfl
def gX (X : wM) (q : Nat) : Int32 := gi X (36 + 3 * (q / 10)) (q % 10)
theorem ftN_eq (X : wM) (k : Nat) : ftN X k = fcn (gX X) k 60 := fcn_filter (gX X) k 60
theorem feetM {M : wM} {k nc : Nat} {Q : Int32 → wM → Prop} (hn : nc ≤ 6) (e : gi M 0 22 = nI nc) (q : Q (nI (fcn (gi M 23) k (10 * nc))) M) : w_X12_feetOn (nI k) M Q := by
  have k4 : ∀ d c, c + d = nc → wL_X12_feetOn_4 (nI k) Q (d + 1) (nI (fcn (gi M 23) k (10 * c))) (nI c) M := by
    intro d
    induction d with
    | zero =>
      intro c hc
      obtain rfl : c = nc := by omega
      show wb_X12_feetOn_4 _ _ _ _ M Q
      unfold wb_X12_feetOn_4
      rw [e]
      exact bt (nI_le (by omega) (by omega)) q
    | succ d ih =>
      intro c hc
      have ih1 := ih (c + 1) (by omega)
      have k15 : ∀ j i, i + j = 10 → wL_X12_feetOn_15 (nI k) (nI c) (wL_X12_feetOn_4 (nI k) Q (d + 1)) Q (j + 1) (nI (fcn (gi M 23) k (10 * c + i))) (nI i) M := by
        intro j
        induction j with
        | zero =>
          intro i hi
          obtain rfl : i = 10 := by omega
          show wb_X12_feetOn_15 _ _ _ _ _ _ M Q
          unfold wb_X12_feetOn_15
          rw [nI_add c 1]
          exact bt (nI_le (by omega) (by omega)) ih1
        | succ j ih2 =>
          intro i hi
          have ih3 := ih2 (i + 1) (by omega)
          show wb_X12_feetOn_15 (nI k) (nI c) _ (wL_X12_feetOn_15 (nI k) (nI c) (wL_X12_feetOn_4 (nI k) Q (d + 1)) Q (j + 1)) _ _ M Q
          unfold wb_X12_feetOn_15
          rw [nI_mul, nI_add (10 * c) i, nI_clamp (by omega), nI_add i 1, nI_add (fcn (gi M 23) k (10 * c + i)) 1, nI_add _ 0]
          rw [show fcn (gi M 23) k (10 * c + (i + 1)) = fcn (gi M 23) k (10 * c + i) + (if gi M 23 (10 * c + i) = nI k then 1 else 0) from rfl] at ih3
          refine bf (nI_ge (by omega) (by omega)) ⟨vp_in_nI (by omega) (by decide), bc (fun z => ?_) (fun z => ?_)⟩
          · rw [if_pos z] at ih3
            exact ih3
          · rw [if_neg z] at ih3
            exact ih3
      show wb_X12_feetOn_4 (nI k) (wL_X12_feetOn_4 (nI k) Q (d + 1)) _ _ M Q
      unfold wb_X12_feetOn_4
      rw [e]
      exact bf (nI_ge (by omega) (by omega)) ⟨11, k15 10 0 (by omega)⟩
  exact ⟨nc + 1, k4 nc 0 (by omega)⟩
theorem hasNet_w {X : wM} {nn : Nat} {x : Int32} {Q : Int32 → wM → Prop} (hn : nn ≤ 8) (e : gi X 12 0 = nI nn) (q1 : 0 ≤ x.toInt ∧ x.toInt < nn → Q (nI 1) X) (q0 : ¬ (0 ≤ x.toInt ∧ x.toInt < nn) → Q (nI 0) X) : w_X3_has x X Q := by
  unfold w_X3_has
  rw [e, lt_n (by decide), n_le (by omega)]
  exact ⟨fun h => q0 (by omega), fun h => ⟨fun k => q0 (by omega), fun k => q1 (by omega)⟩⟩
theorem isNet_w {M : wM} {nn : Nat} {x : Int32} {Q : Int32 → wM → Prop} (hn : nn ≤ 8) (e : gi M 0 41 = nI nn) (q1 : 0 ≤ x.toInt ∧ x.toInt < nn → Q (nI 1) M) (q0 : ¬ (0 ≤ x.toInt ∧ x.toInt < nn) → Q (nI 0) M) : w_X12_isNet x M Q := by
  unfold w_X12_isNet
  rw [e]
  by_cases c : 0 ≤ x.toInt ∧ x.toInt < nn
  · exact in_t (by decide) (hi_S (by omega)) (by omega) ⟨Or.inr rfl, q1 c⟩
  · exact in_f (by decide) (hi_S (by omega)) (by omega) ⟨Or.inl rfl, q0 c⟩
theorem rg_36 {c j : Nat} (hc : c < 6) : cX (36 + 3 * c) j ∈ [36, 39, 42, 45, 48, 51, 13] := by
  rcases (show c = 0 ∨ c = 1 ∨ c = 2 ∨ c = 3 ∨ c = 4 ∨ c = 5 by omega) with rfl | rfl | rfl | rfl | rfl | rfl <;> simp [cX]
theorem law_join (x1 x2 x3 : Int32) (Mx Mm : wM) (h : Inv Mx Mm) : w_X11_join x1 x2 x3 Mx (fun r A => w_X12_join x1 x2 x3 Mm (fun r2 B => r = r2 ∧ Inv A B)) := by
  obtain ⟨nc, np, nn, h1, h2, h3, e1, e2, e3, e4, e5, e6, hc⟩ := Inv_nc h
  have hC := h.2.2.2.1
  have hF := h.2.2.2.2.2.2.2.2.2.2
  unfold w_X11_join w_X12_join
  refine hasNet_w h3 e5 (fun c1 => bf ne10 (hasFoot_w hC (fun f => bf ne10 ?_) (fun f => bt rfl (isNet_w h3 e6 (fun _ => bf ne10 (isCell_w hC h.2.2.1 (fun z => absurd z f) (fun _ => bt rfl ⟨rfl, h⟩))) (fun z => absurd c1 z))))) (fun c1 => bt rfl (isNet_w h3 e6 (fun z => absurd z c1) (fun _ => bt rfl ⟨rfl, h⟩)))
  obtain ⟨k, hk, rfl, ek⟩ := nI_ex (x := x1) c1.1
  obtain ⟨c, i, nc2, n, rfl, rfl, a3, a4, a5, a6, a7, a8⟩ := id f
  obtain rfl : nc2 = nc := inj31 (a3.symm.trans e1) (by omega) (by omega)
  have v6 : vp_in (nI c) 6 := vp_in_nI (by omega) (by decide)
  have v10 : vp_in (nI i) 10 := vp_in_nI (by omega) (by decide)
  have v8 : vp_in (nI k) 8 := vp_in_nI (by omega) (by decide)
  have v60 : vp_in (nI (10 * c + i)) 60 := vp_in_nI (by omega) (by decide)
  obtain ⟨p, L, n', o, idv, sa, ex, ord, orow, lat, opn, br, cr, k1, pr, cr2, k4, k5, k6, k7, k8⟩ := hc c a4
  obtain rfl : n' = n := inj31 (k6.2.1.1.symm.trans (by rw [← k4]; exact a6)) (by have := pr.2.2.1; omega) (by omega)
  have ceq := k8 i (by omega)
  rw [nI_clamp (n := c) (by omega), nI_clamp (n := i) (by omega), nI_clamp (n := k) (by omega), nI_mul, nI_add (10 * c) i, nI_clamp (n := 10 * c + i) (by omega)]
  refine ⟨v6, v10, bc (fun z => ?_) (fun z => isNet_w h3 e6 (fun _ => bf ne10 (isCell_w hC h.2.2.1 (fun _ => bf ne10 ⟨v60, bf (by rw [← ceq.1]; exact z) ⟨rfl, h⟩⟩) (fun w => absurd f w))) (fun w => absurd c1 w))⟩
  refine ⟨v6, v10, v8, v8, v8, isNet_w h3 e6 (fun _ => bf ne10 (isCell_w hC h.2.2.1 (fun _ => bf ne10 ⟨v60, bt (by rw [← ceq.1]; exact z) ⟨v60, ?_⟩⟩) (fun w => absurd f w))) (fun w => absurd c1 w)⟩
  refine feetM h1 (by rw [gi_ne (Or.inl (by decide))]; exact e2) ?_
  have hF0 : gi (si Mx (36 + 3 * c) i (nI k)) 13 k = nI (ftN Mx k) := by
    rw [gi_ne (Or.inl (by omega))]
    exact hF k (by omega)
  rw [hF0, gi_eq, nI_add]
  have hX' : ∀ q, q < 60 → q ≠ 10 * c + i → ∀ v, gX (si (si Mx (36 + 3 * c) i (nI k)) 13 k v) q = gX Mx q := by
    intro q hq hne v
    unfold gX
    rw [gi_ne (Or.inl (by omega)), gi_ne (by omega)]
  have hX0 : ∀ v, gX (si (si Mx (36 + 3 * c) i (nI k)) 13 k v) (10 * c + i) = nI k := by
    intro v
    unfold gX
    rw [show (10 * c + i) / 10 = c by omega, show (10 * c + i) % 10 = i by omega, gi_ne (Or.inl (by omega)), gi_eq]
  have hXz : gX Mx (10 * c + i) = -4 := by
    unfold gX
    rw [show (10 * c + i) / 10 = c by omega, show (10 * c + i) % 10 = i by omega]
    exact z
  have nz : ∀ k', k' < 8 → ¬ (-4 : Int32) = nI k' := fun k' hk' q => n4_ne (n := k') (by omega) q.symm
  have up : ∀ v, ftN (si (si Mx (36 + 3 * c) i (nI k)) 13 k v) k = ftN Mx k + 1 := by
    intro v
    rw [ftN_eq, ftN_eq, fcn_up (g := gX Mx) (q0 := 10 * c + i) (by rw [hXz]; exact nz k (by omega)) (hX0 v) 60 (fun q hq hne => hX' q hq hne v), if_pos (by omega)]
  have same : ∀ v k', k' < 8 → k' ≠ k → ftN (si (si Mx (36 + 3 * c) i (nI k)) 13 k v) k' = ftN Mx k' := by
    intro v k' hk' hne
    rw [ftN_eq, ftN_eq]
    refine fcn_congr 60 (fun q hq => ?_)
    by_cases y : q = 10 * c + i
    · rw [y, hX0 v, hXz]
      constructor
      · intro w; exact absurd (inj31 w (by omega) (by omega)) (Ne.symm hne)
      · intro w; exact absurd w (nz k' hk')
    · rw [hX' q hq y v]
  have hfin : fcn (gi (si Mm 23 (10 * c + i) (nI k)) 23) k (10 * nc2) = ftN Mx k + 1 := by
    rw [← up 0, ftN_eq, show (60 : Nat) = 10 * nc2 + (60 - 10 * nc2) by omega, fcn_more]
    · refine fcn_congr _ (fun q hq => ?_)
      by_cases y : q = 10 * c + i
      · rw [y, gi_eq, hX0 0]
      · rw [gi_ne (Or.inr y), hX' q (by omega) y 0]
        obtain ⟨p2, L2, n2, o2, idv2, sa2, ex2, ord2, orow2, lat2, opn2, br2, cr3, -, -, -, -, -, -, -, k82⟩ := hc (q / 10) (by omega)
        have := (k82 (q % 10) (by omega)).1
        rw [show 10 * (q / 10) + q % 10 = q by omega] at this
        unfold gX
        rw [this]
    · intro q g1 g2
      obtain ⟨nc3, np3, nn3, b1, b2, b3, b4, b5, b6, b7, b8, b9⟩ := id hC
      obtain rfl : nc3 = nc2 := inj31 (b4.symm.trans e1) (by omega) (by omega)
      rw [hX' q (by omega) (by omega) 0]
      have := (b9 (q / 10) (by omega) (by omega)).2.2.2.2 (q % 10) (by omega)
      unfold gX
      rw [this]
      exact nz k (by omega)
  rw [hfin]
  refine ⟨rfl, Inv_fr (T := [36, 39, 42, 45, 48, 51, 13]) (S := [23]) h (sX_trans (sX_si (rg_36 (by omega))) (sX_si (by simp [cX]))) (sM_si (by simp [cM])) (hC := Or.inr ?_) (hF := Or.inr (fun k' hk' => ?_))⟩
  · obtain ⟨nc3, np3, nn3, b1, b2, b3, b4, b5, b6, b7, b8, b9⟩ := id hC
    obtain rfl : nc3 = nc2 := inj31 (b4.symm.trans e1) (by omega) (by omega)
    obtain rfl : nn3 = nn := inj31 (b7.symm.trans e5) (by omega) (by omega)
    have xo : ∀ v a j, a ≠ 13 → a ≠ 36 + 3 * c ∨ j ≠ i → gi (si (si Mx (36 + 3 * c) i (nI k)) 13 k v) a j = gi Mx a j := fun v a j g1 g2 => by rw [gi_ne (Or.inl g1), gi_ne g2]
    refine ⟨nc3, np3, nn3, b1, b2, b3, by rw [xo _ _ _ (by decide) (Or.inl (by omega))]; exact b4, by rw [gi_ne (Or.inl (by decide))]; exact b5, by rw [xo _ _ _ (by decide) (Or.inl (by omega))]; exact b6, by rw [xo _ _ _ (by decide) (Or.inl (by omega))]; exact b7, fun c' hc' => ?_, fun c' g1 g2 => ?_⟩
    · by_cases hcc : c' = c
      · subst hcc
        obtain ⟨p, L, n1, o, ord, orow, lat, opn, br, cr, d1, d2, d3, d4, d5, d6, d7, d8, d9, d10, d11, d12, d13, d14, d15⟩ := b8 c' hc'
        obtain rfl : n1 = n' := inj31 (d3.symm.trans (by rw [← d6]; exact a6)) (by have := d5.1.2.2.1; omega) (by omega)
        refine ⟨p, L, n1, o, ord, orow, lat, opn, br, cr, d1, ?_⟩
        have y1 : ∀ j, gi (si (si Mx (36 + 3 * c') i (nI k)) 13 k (nI (ftN Mx k + 1))) (34 + 3 * c') j = gi Mx (34 + 3 * c') j := fun j => xo _ _ _ (by omega) (Or.inl (by omega))
        have y2 : ∀ j, gi (si (si Mx (36 + 3 * c') i (nI k)) 13 k (nI (ftN Mx k + 1))) (35 + 3 * c') j = gi Mx (35 + 3 * c') j := fun j => xo _ _ _ (by omega) (Or.inl (by omega))
        have y0 : ∀ j, gi (si (si Mx (36 + 3 * c') i (nI k)) 13 k (nI (ftN Mx k + 1))) (65 + p) j = gi Mx (65 + p) j := fun j => xo _ _ _ (by omega) (Or.inl (by omega))
        have y3 : ∀ a j, a ≠ 23 → gi (si Mm 23 (10 * c' + i) (nI k)) a j = gi Mm a j := fun a j ha => gi_ne (Or.inl ha)
        simp only [y0, y1, y2, gp_si, y3 14 _ (by decide), y3 15 _ (by decide), y3 16 _ (by decide), y3 17 _ (by decide), y3 18 _ (by decide), y3 19 _ (by decide), y3 20 _ (by decide), y3 21 _ (by decide)]
        refine ⟨d2, d3, d4, d5, d6, d7, d8, d9, d10, d11, d12, d13, d14, fun j hj => ?_⟩
        by_cases y : j = i
        · subst y
          rw [gi_ne (Or.inl (by omega)), gi_eq, gi_eq]
          exact ⟨rfl, Or.inr ⟨k, by omega, a7, rfl⟩⟩
        · rw [xo _ _ _ (by omega) (Or.inr y), gi_ne (Or.inr (by omega))]
          exact d15 j hj
      · exact chipOk_fr2 b2 (b8 c' hc') rfl (fun p j hp => xo _ _ _ (by omega) (Or.inl (by omega))) (fun j => xo _ _ _ (by omega) (Or.inl (by omega))) (fun j => xo _ _ _ (by omega) (Or.inl (by omega))) (fun j => xo _ _ _ (by omega) (Or.inl (by omega))) (fun a g1 g2 => gi_ne (Or.inl (by omega))) (fun j hj => gi_ne (Or.inr (by omega)))
    · exact chipNo_fr (b9 c' g1 g2) (fun j => xo _ _ _ (by omega) (Or.inl (by omega))) (fun j => xo _ _ _ (by omega) (Or.inl (by omega))) (fun j => xo _ _ _ (by omega) (Or.inl (by omega)))
  · by_cases y : k' = k
    · subst y
      rw [gi_eq, up]
    · rw [same _ k' hk' y, gi_ne (Or.inr y), gi_ne (Or.inl (by omega))]
      exact hF k' hk'
