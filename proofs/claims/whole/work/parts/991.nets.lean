/-! net, stick, bridge -/
theorem sX_k24 {T : List Nat} {X A : wM} (h : k24 X A) (h1 : 24 ∈ T) (h2 : 25 ∈ T) : sX T X A :=
  ⟨fun a j q => h.1 a j (fun z => q (by rw [z]; exact h1)) (fun z => q (by rw [z]; exact h2)), h.2⟩
theorem chipOk_nn {X M : wM} {np nn nn' c : Nat} (hn : nn ≤ nn') (h : chipOk X M np nn c) : chipOk X M np nn' c := by
  obtain ⟨p, L, n, o, ord, orow, lat, opn, br, cr, k1, k2, k3, k4, k5, k6, k7, k8, k9, k10, k11, k12, k13, k14, k15⟩ := h
  refine ⟨p, L, n, o, ord, orow, lat, opn, br, cr, k1, k2, k3, k4, k5, k6, k7, k8, k9, k10, k11, k12, k13, k14, fun i hi => ⟨(k15 i hi).1, ?_⟩⟩
  rcases (k15 i hi).2 with z | ⟨k, a1, a2, a3⟩
  · exact Or.inl z
  · exact Or.inr ⟨k, by omega, a2, a3⟩
theorem law_net (Mx Mm : wM) (h : Inv Mx Mm) : w_X11_net Mx (fun r A => w_X12_net Mm (fun r2 B => r = r2 ∧ Inv A B)) := by
  obtain ⟨nn, g1, g2, g3, g4, g5, g6, g7⟩ := id h.2.2.2.2.2.2.2.1
  obtain ⟨nc, np, nn2, c1, c2, c3, d1, d2, d3, d4, dk, dn⟩ := id h.2.2.2.1
  obtain rfl : nn = nn2 := inj31 (g2.symm.trans d4) (by omega) (by omega)
  unfold w_X11_net w_X3_append w_X12_net
  rw [g2, g3]
  by_cases z : nn = 8
  · exact bf (by rw [z]; decide) (bt (by rw [z]) ⟨rfl, h⟩)
  refine bt (by rw [lt_n (by decide), nI_toInt (by omega)]; omega) ?_
  rw [nI_add]
  have r4 : ∀ a b, a < nn + 1 → b < nn + 1 → gi Mx (16 + a) b = gi Mx (16 + b) a ∧ (nn ≤ a ∨ nn ≤ b → gi Mx (16 + a) b = -4) := by
    intro a b ha hb
    by_cases w : nn ≤ a ∨ nn ≤ b
    · have w1 := g7 a b (by omega) (by omega) w
      have w2 := g7 b a (by omega) (by omega) w.symm
      exact ⟨w1.trans w2.symm, fun _ => w1⟩
    · exact ⟨(g6 a b (by omega) (by omega)).2.1, fun y => absurd y w⟩
  have x0 : ∀ a j, a ≠ 12 → gi (si Mx 12 0 (nI (nn + 1))) a j = gi Mx a j := fun a j ha => gi_ne (Or.inl ha)
  refine regX (nn := nn + 1) (by omega) (gi_eq ..) (fun x y hx hy => ?_) (fun a ha => ?_) (fun A k iG' => ?_)
  · unfold EX
    rw [x0 _ _ (by omega), x0 _ _ (by omega), (r4 x y hx hy).1]
    exact id
  · rw [x0 14 a (by decide)]
    by_cases w : a = nn
    · rw [w]; exact Or.inl (g5 nn (Nat.le_refl _) (by omega))
    · exact (g4 a (by omega)).2
  · have eA : gi A 12 0 = nI (nn + 1) := by rw [k.1 12 0 (by decide) (by decide), gi_eq]
    have kA : ∀ a j, a ≠ 12 → a ≠ 24 → a ≠ 25 → gi A a j = gi Mx a j := fun a j p p1 p2 => (k.1 a j p1 p2).trans (x0 a j p)
    rw [eA, pk_sub (by omega), show nn + 1 - 1 = nn by omega, nI_clamp (n := nn) (by omega)]
    refine bf (fun y => z (inj31 y (by omega) (by decide))) ⟨vp_in_nI (by omega) (by decide), ?_⟩
    refine lo1 (fun K y M => wb_X12_net_25 K y M _) (fun _ _ _ => rfl) 8 (fun i M' => (∀ x j, x ≠ 28 → gi M' x j = gi (si Mm 27 nn (-4)) x j) ∧ (∀ a b, a < 8 → b < 8 → ((a = nn ∧ b < i) ∨ (b = nn ∧ a < i)) → gi M' 28 (8 * a + b) = nI 0) ∧ ∀ a b, a < 8 → b < 8 → a ≠ nn → b ≠ nn → gi M' 28 (8 * a + b) = gi Mm 28 (8 * a + b)) ?_ ?_ (Nat.zero_le _) ⟨fun _ _ _ => rfl, fun a b _ _ h => by omega, fun a b _ _ _ _ => gi_ne (Or.inl (by decide))⟩
    · rintro i M' K hi ⟨f, a1, a2⟩ kk
      unfold wb_X12_net_25
      rw [f 0 41 (by decide), gi_ne (Or.inl (by decide)), g3, nI_mul, nI_mul, nI_add (8 * nn) i, nI_add (8 * i) nn, nI_add i 1, nI_clamp (n := 8 * nn + i) (by omega), nI_clamp (n := 8 * i + nn) (by omega)]
      refine bf (nI_ge hi (by decide)) ⟨vp_in_nI (by omega) (by decide), vp_in_nI (by omega) (by decide), kk _ ⟨fun x j p => ?_, fun a b ha hb w => ?_, fun a b ha hb w1 w2 => ?_⟩⟩
      · rw [gi_ne (Or.inl p), gi_ne (Or.inl p)]; exact f x j p
      · by_cases y : 8 * a + b = 8 * i + nn
        · rw [y, gi_eq]
        · rw [gi_ne (Or.inr y)]
          by_cases y2 : 8 * a + b = 8 * nn + i
          · rw [y2, gi_eq]
          · rw [gi_ne (Or.inr y2)]
            exact a1 a b ha hb (by omega)
      · rw [gi_ne (Or.inr (by omega)), gi_ne (Or.inr (by omega))]
        exact a2 a b ha hb w1 w2
    · rintro M' K ⟨f, a1, a2⟩
      unfold wb_X12_net_25
      have e41 : gi M' 0 41 = nI nn := by rw [f 0 41 (by decide), gi_ne (Or.inl (by decide))]; exact g3
      rw [e41, nI_add, pk_sub (by omega), show nn + 1 - 1 = nn by omega]
      refine bt (nI_le (by decide) (by decide)) ⟨rfl, ?_⟩
      have kM : ∀ a j, (a ≠ 0 ∨ j ≠ 41) → a ≠ 27 → a ≠ 28 → gi (si M' 0 41 (nI (nn + 1))) a j = gi Mm a j := fun a j p p1 p2 => by
        rw [gi_ne p, f a j p2, gi_ne (Or.inl p1)]
      refine Inv_fr (T := [2200, 24, 25]) (S := [1041, 27, 28]) h ⟨fun a j q => ?_, fun c => k.2 c⟩ (fun a j q => ?_) (hC := Or.inr ⟨nc, np, nn + 1, c1, c2, by omega, ?_, ?_, ?_, eA, fun c hc => ?_, fun c w1 w2 => ?_⟩) (hN := Or.inr ⟨nn + 1, by omega, eA, gi_eq .., fun i hi => ?_, fun i w1 w2 => ?_, fun a b ha hb => ?_, fun a b ha hb w => ?_⟩) (hG := Or.inr iG')
      · by_cases w : a = 12
        · subst w
          rw [k.1 12 j (by decide) (by decide), gi_ne (Or.inr (fun y => q (by rw [y]; decide)))]
        · exact kA a j w (fun y => q (by rw [y]; simp [cX])) (fun y => q (by rw [y]; simp [cX]))
      · refine kM a j ?_ (fun y => q (by rw [y]; simp [cM])) (fun y => q (by rw [y]; simp [cM]))
        by_cases w : a = 0
        · subst w
          exact Or.inr (fun y => q (by rw [y]; decide))
        · exact Or.inl w
      · rw [kA 26 3 (by decide) (by decide) (by decide)]; exact d1
      · rw [kM 0 22 (by decide) (by decide) (by decide)]; exact d2
      · rw [kA 0 3 (by decide) (by decide) (by decide)]; exact d3
      · exact chipOk_fr (by omega) c2 (chipOk_nn (by omega) (dk c hc)) (k.2 c) (fun p j hp => kA _ _ (by omega) (by omega) (by omega)) (fun j => kA _ _ (by omega) (by omega) (by omega)) (fun j => kA _ _ (by omega) (by omega) (by omega)) (fun j => kA _ _ (by omega) (by omega) (by omega)) (fun a j w1 w2 w3 => kM a j (Or.inl (by omega)) (by omega) (by omega))
      · exact chipNo_fr (dn c w1 w2) (fun j => kA _ _ (by omega) (by omega) (by omega)) (fun j => kA _ _ (by omega) (by omega) (by omega)) (fun j => kA _ _ (by omega) (by omega) (by omega))
      · rw [kA 14 i (by decide) (by decide) (by decide), gi_ne (Or.inl (by decide)), f 27 i (by decide)]
        by_cases w : i = nn
        · rw [w, gi_eq, g5 nn (Nat.le_refl _) (by omega)]
          exact ⟨rfl, Or.inl rfl⟩
        · rw [gi_ne (Or.inr w)]
          exact g4 i (by omega)
      · rw [kA 14 i (by decide) (by decide) (by decide)]
        exact g5 i (by omega) w2
      · rw [kA (16 + a) b (by omega) (by omega) (by omega), kA (16 + b) a (by omega) (by omega) (by omega), gi_ne (Or.inl (by decide))]
        refine ⟨?_, (r4 a b ha hb).1, fun w => ?_⟩
        · by_cases w : nn ≤ a ∨ nn ≤ b
          · rw [(r4 a b ha hb).2 w, a1 a b (by omega) (by omega) (by omega)]
            exact Or.inl ⟨rfl, rfl⟩
          · rw [a2 a b (by omega) (by omega) (by omega) (by omega)]
            exact (g6 a b (by omega) (by omega)).1
        · by_cases y : nn ≤ a ∨ nn ≤ b
          · exact (r4 a b ha hb).2 y
          · exact (g6 a b (by omega) (by omega)).2.2 w
      · rw [kA (16 + a) b (by omega) (by omega) (by omega)]
        exact g7 a b ha hb (by omega)
theorem law_stick (x1 x2 : Int32) (Mx Mm : wM) (h : Inv Mx Mm) : w_X11_stick x1 x2 Mx (fun r A => w_X12_stick x1 x2 Mm (fun r2 B => r = r2 ∧ Inv A B)) := by
  obtain ⟨nn, g1, g2, g3, g4, g5, g6, g7⟩ := id h.2.2.2.2.2.2.2.1
  unfold w_X11_stick w_X12_stick
  refine hasNet_w g1 g2 (fun c => bf ne10 ?_) (fun c => bt rfl (isNet_w g1 g3 (fun z => absurd z c) (fun _ => bt rfl ⟨rfl, h⟩)))
  obtain ⟨a, ha, rfl, ea⟩ := nI_ex (x := x1) c.1
  have a8 : a < nn := by omega
  have v8 : vp_in (nI a) 8 := vp_in_nI (by omega) (by decide)
  refine lvl_w (fun l => bf ne10 ⟨v8, v8, ?_⟩) (fun l => bt rfl (isNet_w g1 g3 (fun _ => bf ne10 (bf (fun y => l (Or.inl y)) (in_f (by decide) (hi_N (by decide)) (fun y => l (Or.inr (lvl_i.mpr y))) (bt rfl ⟨rfl, h⟩)))) (fun z => absurd c z)))
  rw [nI_clamp ha]
  have x0 : ∀ b j, b ≠ 14 → gi (si Mx 14 a x2) b j = gi Mx b j := fun b j hb => gi_ne (Or.inl hb)
  refine regX (nn := nn) g1 ((x0 12 0 (by decide)).trans g2) (fun x y hx hy => ?_) (fun i hi => ?_) (fun A k iG' => ?_)
  · unfold EX
    rw [x0 _ _ (by omega), x0 _ _ (by omega), (g6 x y hx hy).2.1]
    exact id
  · by_cases w : i = a
    · rw [w, gi_eq]; exact l
    · rw [gi_ne (Or.inr w)]; exact (g4 i hi).2
  · have fin : gi Mx 14 a = gi Mm 27 a ∧ Inv A (si Mm 27 a x2) := by
      refine ⟨(g4 a a8).1, Inv_fr (T := [14, 24, 25]) (S := [27]) h (sX_trans (sX_si (by simp [cX])) (sX_k24 k (by decide) (by decide))) (sM_si (by simp [cM])) (hN := Or.inr ⟨nn, g1, ?_, ?_, fun i hi => ?_, fun i w1 w2 => ?_, fun x y hx hy => ?_, fun x y hx hy w => ?_⟩) (hG := Or.inr iG')⟩
      · rw [k.1 12 0 (by decide) (by decide), x0 12 0 (by decide)]; exact g2
      · rw [gi_ne (Or.inl (by decide))]; exact g3
      · rw [k.1 14 i (by decide) (by decide)]
        by_cases w : i = a
        · rw [w, gi_eq, gi_eq]; exact ⟨rfl, l⟩
        · rw [gi_ne (Or.inr w), gi_ne (Or.inr w)]; exact g4 i hi
      · rw [k.1 14 i (by decide) (by decide), gi_ne (Or.inr (by omega))]
        exact g5 i w1 w2
      · rw [k.1 (16 + x) y (by omega) (by omega), k.1 (16 + y) x (by omega) (by omega), x0 _ _ (by omega), x0 _ _ (by omega), gi_ne (Or.inl (by decide))]
        exact g6 x y hx hy
      · rw [k.1 (16 + x) y (by omega) (by omega), x0 _ _ (by omega)]
        exact g7 x y hx hy w
    have w : wj_X12_stick_26 (nI a) x2 Mm (fun r2 B => gi Mx 14 a = r2 ∧ Inv A B) := by
      unfold wj_X12_stick_26
      rw [nI_clamp ha]
      exact ⟨v8, v8, fin⟩
    refine isNet_w g1 g3 (fun _ => bf ne10 (bc (fun _ => w) (fun y => in_t (by decide) (hi_N (by decide)) (lvl_i.mp (l.elim (fun u => absurd u y) id)) (bf ne10 w)))) (fun z => absurd c z)
theorem law_bridge (x1 x2 x3 : Int32) (Mx Mm : wM) (h : Inv Mx Mm) : w_X11_bridge x1 x2 x3 Mx (fun r A => w_X12_bridge x1 x2 x3 Mm (fun r2 B => r = r2 ∧ Inv A B)) := by
  obtain ⟨nn, g1, g2, g3, g4, g5, g6, g7⟩ := id h.2.2.2.2.2.2.2.1
  unfold w_X11_bridge w_X12_bridge
  refine hasNet_w g1 g2 (fun c => bf ne10 ?_) (fun c => bt rfl (isNet_w g1 g3 (fun z => absurd z c) (fun _ => bt rfl ⟨rfl, h⟩)))
  have i1 : ∀ P : Int32 → wM → Prop, P (nI 1) Mm → w_X12_isNet x1 Mm P := fun P p => isNet_w g1 g3 (fun _ => p) (fun z => absurd c z)
  refine hasNet_w g1 g2 (fun c2 => bf ne10 ?_) (fun c2 => bt rfl (i1 _ (bf ne10 (isNet_w g1 g3 (fun z => absurd z c2) (fun _ => bt rfl ⟨rfl, h⟩)))))
  have i2 : ∀ P : Int32 → wM → Prop, P (nI 1) Mm → w_X12_isNet x2 Mm P := fun P p => isNet_w g1 g3 (fun _ => p) (fun z => absurd c2 z)
  refine bc (fun y => i1 _ (bf ne10 (i2 _ (bf ne10 (bt y ⟨rfl, h⟩))))) (fun y => ?_)
  obtain ⟨a, ha, rfl, ea⟩ := nI_ex (x := x1) c.1
  obtain ⟨b, hb, rfl, eb⟩ := nI_ex (x := x2) c2.1
  have hab : a ≠ b := fun w => y (by rw [w])
  have va : vp_in (nI a) 8 := vp_in_nI (by omega) (by decide)
  have vb : vp_in (nI b) 8 := vp_in_nI (by omega) (by decide)
  refine lvl_w (fun l => bf ne10 ⟨va, vb, va, vb, vb, va, ?_⟩) (fun l => bt rfl (i1 _ (bf ne10 (i2 _ (bf ne10 (bf y (bf (fun w => l (Or.inl w)) (in_f (by decide) (hi_N (by decide)) (fun w => l (Or.inr (lvl_i.mpr w))) (bt rfl ⟨rfl, h⟩)))))))))
  rw [nI_clamp ha, nI_clamp hb]
  have hx : ∀ x j, gi (si (si Mx (16 + a) b x3) (16 + b) a x3) x j = if (x = 16 + a ∧ j = b) ∨ (x = 16 + b ∧ j = a) then x3 else gi Mx x j := by
    intro x j
    by_cases w1 : x = 16 + b ∧ j = a
    · rw [if_pos (Or.inr w1), w1.1, w1.2, gi_eq]
    · rw [gi_ne (by omega)]
      by_cases w2 : x = 16 + a ∧ j = b
      · rw [if_pos (Or.inl w2), w2.1, w2.2, gi_eq]
      · rw [gi_ne (by omega), if_neg (fun w => w.elim w2 w1)]
  have sy : ∀ x y', x < nn → y' < nn → gi (si (si Mx (16 + a) b x3) (16 + b) a x3) (16 + x) y' = gi (si (si Mx (16 + a) b x3) (16 + b) a x3) (16 + y') x := by
    intro x y' hx1 hy1
    rw [hx, hx]
    by_cases w : (x = a ∧ y' = b) ∨ (x = b ∧ y' = a)
    · rw [if_pos (by omega), if_pos (by omega)]
    · rw [if_neg (by omega), if_neg (by omega)]
      exact (g6 x y' hx1 hy1).2.1
  refine regX (nn := nn) g1 (by rw [hx, if_neg (by omega)]; exact g2) (fun x y' hx1 hy1 => ?_) (fun i hi => ?_) (fun A k iG' => ?_)
  · unfold EX
    rw [sy x y' hx1 hy1]
    exact id
  · rw [hx, if_neg (by omega)]; exact (g4 i hi).2
  · obtain ⟨mv, em, hm2⟩ : ∃ mv : Int32, (x3 = -4 ∧ mv = nI 0 ∨ ¬ x3 = -4 ∧ mv = jshl (nI 1) x3) ∧ shR x3 mv := by
      rcases l with w | w | w
      · exact ⟨nI 0, Or.inl ⟨w, rfl⟩, Or.inl ⟨w, rfl⟩⟩
      · exact ⟨nI 1, Or.inr ⟨by rw [w]; decide, by rw [w]; decide⟩, Or.inr (Or.inl ⟨w, rfl⟩)⟩
      · exact ⟨nI 2, Or.inr ⟨by rw [w]; decide, by rw [w]; decide⟩, Or.inr (Or.inr ⟨w, rfl⟩)⟩
    have hm : ∀ x j, gi (si (si Mm 28 (8 * a + b) mv) 28 (8 * b + a) mv) x j = if x = 28 ∧ (j = 8 * a + b ∨ j = 8 * b + a) then mv else gi Mm x j := by
      intro x j
      by_cases w1 : x = 28 ∧ j = 8 * b + a
      · rw [if_pos ⟨w1.1, Or.inr w1.2⟩, w1.1, w1.2, gi_eq]
      · rw [gi_ne (by omega)]
        by_cases w2 : x = 28 ∧ j = 8 * a + b
        · rw [if_pos ⟨w2.1, Or.inl w2.2⟩, w2.1, w2.2, gi_eq]
        · rw [gi_ne (by omega), if_neg (by omega)]
    have inv : Inv A (si (si Mm 28 (8 * a + b) mv) 28 (8 * b + a) mv) := by
      have c16 : ∀ t j, t < nn → cX (16 + t) j ∈ [16, 17, 18, 19, 20, 21, 22, 23, 24, 25] := by
        intro t j ht
        rcases (show t = 0 ∨ t = 1 ∨ t = 2 ∨ t = 3 ∨ t = 4 ∨ t = 5 ∨ t = 6 ∨ t = 7 by omega) with rfl | rfl | rfl | rfl | rfl | rfl | rfl | rfl <;> simp [cX]
      refine Inv_fr (T := [16, 17, 18, 19, 20, 21, 22, 23, 24, 25]) (S := [28]) h (sX_trans (sX_trans (sX_si (c16 a b (by omega))) (sX_si (c16 b a (by omega)))) (sX_k24 k (by decide) (by decide))) (sM_trans (sM_si (by simp [cM])) (sM_si (by simp [cM]))) (hN := Or.inr ⟨nn, g1, ?_, ?_, fun i hi => ?_, fun i w1 w2 => ?_, fun x y' hx1 hy1 => ?_, fun x y' hx1 hy1 w => ?_⟩) (hG := Or.inr iG')
      · rw [k.1 12 0 (by decide) (by decide), hx, if_neg (by omega)]; exact g2
      · rw [hm, if_neg (by omega)]; exact g3
      · rw [k.1 14 i (by decide) (by decide), hx, if_neg (by omega), hm, if_neg (by omega)]; exact g4 i hi
      · rw [k.1 14 i (by decide) (by decide), hx, if_neg (by omega)]; exact g5 i w1 w2
      · rw [k.1 (16 + x) y' (by omega) (by omega), k.1 (16 + y') x (by omega) (by omega)]
        refine ⟨?_, sy x y' hx1 hy1, fun w => ?_⟩
        · rw [hx, hm]
          by_cases w : (x = a ∧ y' = b) ∨ (x = b ∧ y' = a)
          · rw [if_pos (by omega), if_pos (by omega)]; exact hm2
          · rw [if_neg (by omega), if_neg (by omega)]; exact (g6 x y' hx1 hy1).1
        · rw [hx, if_neg (by omega)]; exact (g6 x y' hx1 hy1).2.2 w
      · rw [k.1 (16 + x) y' (by omega) (by omega), hx, if_neg (by omega)]
        exact g7 x y' hx1 hy1 w
    have w65 : wj_X12_bridge_65 (nI a) (nI b) (gi Mm 28 (8 * a + b)) mv Mm (fun r2 B => gi Mx (16 + a) b = r2 ∧ Inv A B) := by
      unfold wj_X12_bridge_65
      rw [nI_mul, nI_mul, nI_add, nI_add, nI_clamp (n := 8 * a + b) (by omega), nI_clamp (n := 8 * b + a) (by omega)]
      refine ⟨vp_in_nI (by omega) (by decide), vp_in_nI (by omega) (by decide), ?_⟩
      rcases (g6 a b (by omega) (by omega)).1 with w | w | w
      · exact bt w.2 ⟨w.1, inv⟩
      · exact bf (by rw [w.2]; decide) ⟨by rw [w.1, w.2]; decide, inv⟩
      · exact bf (by rw [w.2]; decide) ⟨by rw [w.1, w.2]; decide, inv⟩
    have w39 : wj_X12_bridge_39 (nI a) (nI b) x3 Mm (fun r2 B => gi Mx (16 + a) b = r2 ∧ Inv A B) := by
      unfold wj_X12_bridge_39
      rw [nI_mul, nI_add, nI_clamp (n := 8 * a + b) (by omega)]
      refine ⟨vp_in_nI (by omega) (by decide), ?_⟩
      rcases em with ⟨w, rfl⟩ | ⟨w, rfl⟩
      · exact bt w w65
      · exact bf w w65
    refine i1 _ (bf ne10 (i2 _ (bf ne10 (bf y (bc (fun _ => w39) (fun w => in_t (by decide) (hi_N (by decide)) (lvl_i.mp (l.elim (fun u => absurd u w) id)) (bf ne10 w39)))))))
