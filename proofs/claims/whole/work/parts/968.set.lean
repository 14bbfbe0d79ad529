/-! one number of a chip written, here and there -/
theorem chipOk_ord {X M : wM} {np nn c w : Nat} (hc : c < 6) (h : chipOk X M np nn c) (hv : w < 4 ∧ ∀ L n : Nat, gi X (gp X c) 0 = nI L → gi X (gp X c) 1 = nI n → n ≤ 10 → (2 ≤ w → 0 < n)) : chipOk (si X (34 + 3 * c) 2 (nI w)) (si M 15 c (nI w)) np nn c := by
  obtain ⟨p, L, n, o, ord, orow, lat, opn, br, cr, k1, k2, k3, k4, k5, k6, k7, k8, k9, k10, k11, k12, k13, k14, k15⟩ := h
  obtain ⟨r0, r1, r2, r3, r4, r5, r6, r7, r8⟩ := k5
  have kL : gi X (gp X c) 0 = nI L := by rw [k6]; exact k2
  have kn : gi X (gp X c) 1 = nI n := by rw [k6]; exact k3
  have ko : gi X (gp X c) 5 = nI o := by rw [k6]; exact k4
  have x0 : ∀ j, gi (si X (34 + 3 * c) 2 (nI w)) (65 + p) j = gi X (65 + p) j := fun j => gi_ne (Or.inl (by omega))
  have y0 : gi (si X (34 + 3 * c) 2 (nI w)) (34 + 3 * c) 0 = gi X (34 + 3 * c) 0 := gi_ne (Or.inr (by decide))
  have y2 : gi (si X (34 + 3 * c) 2 (nI w)) (34 + 3 * c) 3 = gi X (34 + 3 * c) 3 := gi_ne (Or.inr (by decide))
  have y3 : gi (si X (34 + 3 * c) 2 (nI w)) (34 + 3 * c) 4 = gi X (34 + 3 * c) 4 := gi_ne (Or.inr (by decide))
  have y4 : gi (si X (34 + 3 * c) 2 (nI w)) (34 + 3 * c) 6 = gi X (34 + 3 * c) 6 := gi_ne (Or.inr (by decide))
  have y5 : gi (si X (34 + 3 * c) 2 (nI w)) (35 + 3 * c) 0 = gi X (35 + 3 * c) 0 := gi_ne (Or.inl (by omega))
  have y6 : gi (si X (34 + 3 * c) 2 (nI w)) (35 + 3 * c) 1 = gi X (35 + 3 * c) 1 := gi_ne (Or.inl (by omega))
  have y7 : gi (si X (34 + 3 * c) 2 (nI w)) (35 + 3 * c) 2 = gi X (35 + 3 * c) 2 := gi_ne (Or.inl (by omega))
  have y9 : ∀ j, gi (si X (34 + 3 * c) 2 (nI w)) (36 + 3 * c) j = gi X (36 + 3 * c) j := fun j => gi_ne (Or.inl (by omega))
  have z0 : ∀ a j, a ≠ 15 → gi (si M 15 c (nI w)) a j = gi M a j := fun a j ha => gi_ne (Or.inl ha)
  refine ⟨p, L, n, o, w, orow, lat, opn, br, cr, k1, ?_⟩
  simp only [x0, gp_si, gi_eq, y0, y2, y3, y4, y5, y6, y7, y9, z0 14 _ (by decide), z0 16 _ (by decide), z0 17 _ (by decide), z0 18 _ (by decide), z0 19 _ (by decide), z0 20 _ (by decide), z0 21 _ (by decide), z0 23 _ (by decide)]
  exact ⟨k2, k3, k4, ⟨r0, hv.1, hv.2 L n kL kn r0.2.2.1, r3, r4, r5, r6, r7, r8⟩, k6, k7, ⟨trivial, trivial⟩, k9, k10, k11, k12, k13, k14, k15⟩
theorem chipOk_orow {X M : wM} {np nn c w : Nat} (hc : c < 6) (h : chipOk X M np nn c) (hv : ∀ L : Nat, gi X (gp X c) 0 = nI L → L ≤ 8 → w < 2 ^ L) : chipOk (si X (34 + 3 * c) 3 (nI w)) (si M 16 c (nI w)) np nn c := by
  obtain ⟨p, L, n, o, ord, orow, lat, opn, br, cr, k1, k2, k3, k4, k5, k6, k7, k8, k9, k10, k11, k12, k13, k14, k15⟩ := h
  obtain ⟨r0, r1, r2, r3, r4, r5, r6, r7, r8⟩ := k5
  have kL : gi X (gp X c) 0 = nI L := by rw [k6]; exact k2
  have kn : gi X (gp X c) 1 = nI n := by rw [k6]; exact k3
  have ko : gi X (gp X c) 5 = nI o := by rw [k6]; exact k4
  have x0 : ∀ j, gi (si X (34 + 3 * c) 3 (nI w)) (65 + p) j = gi X (65 + p) j := fun j => gi_ne (Or.inl (by omega))
  have y0 : gi (si X (34 + 3 * c) 3 (nI w)) (34 + 3 * c) 0 = gi X (34 + 3 * c) 0 := gi_ne (Or.inr (by decide))
  have y1 : gi (si X (34 + 3 * c) 3 (nI w)) (34 + 3 * c) 2 = gi X (34 + 3 * c) 2 := gi_ne (Or.inr (by decide))
  have y3 : gi (si X (34 + 3 * c) 3 (nI w)) (34 + 3 * c) 4 = gi X (34 + 3 * c) 4 := gi_ne (Or.inr (by decide))
  have y4 : gi (si X (34 + 3 * c) 3 (nI w)) (34 + 3 * c) 6 = gi X (34 + 3 * c) 6 := gi_ne (Or.inr (by decide))
  have y5 : gi (si X (34 + 3 * c) 3 (nI w)) (35 + 3 * c) 0 = gi X (35 + 3 * c) 0 := gi_ne (Or.inl (by omega))
  have y6 : gi (si X (34 + 3 * c) 3 (nI w)) (35 + 3 * c) 1 = gi X (35 + 3 * c) 1 := gi_ne (Or.inl (by omega))
  have y7 : gi (si X (34 + 3 * c) 3 (nI w)) (35 + 3 * c) 2 = gi X (35 + 3 * c) 2 := gi_ne (Or.inl (by omega))
  have y9 : ∀ j, gi (si X (34 + 3 * c) 3 (nI w)) (36 + 3 * c) j = gi X (36 + 3 * c) j := fun j => gi_ne (Or.inl (by omega))
  have z0 : ∀ a j, a ≠ 16 → gi (si M 16 c (nI w)) a j = gi M a j := fun a j ha => gi_ne (Or.inl ha)
  refine ⟨p, L, n, o, ord, w, lat, opn, br, cr, k1, ?_⟩
  simp only [x0, gp_si, gi_eq, y0, y1, y3, y4, y5, y6, y7, y9, z0 14 _ (by decide), z0 15 _ (by decide), z0 17 _ (by decide), z0 18 _ (by decide), z0 19 _ (by decide), z0 20 _ (by decide), z0 21 _ (by decide), z0 23 _ (by decide)]
  exact ⟨k2, k3, k4, ⟨r0, r1, r2, hv L kL r0.2.1, r4, r5, r6, r7, r8⟩, k6, k7, k8, ⟨trivial, trivial⟩, k10, k11, k12, k13, k14, k15⟩
theorem chipOk_lat {X M : wM} {np nn c w : Nat} (hc : c < 6) (h : chipOk X M np nn c) (hv : ∀ n o : Nat, gi X (gp X c) 1 = nI n → n ≤ 10 → gi X (gp X c) 5 = nI o → o < 2 ^ n → w < 2 ^ n ∧ w &&& o = w) : chipOk (si X (34 + 3 * c) 4 (nI w)) (si M 20 c (nI w)) np nn c := by
  obtain ⟨p, L, n, o, ord, orow, lat, opn, br, cr, k1, k2, k3, k4, k5, k6, k7, k8, k9, k10, k11, k12, k13, k14, k15⟩ := h
  obtain ⟨r0, r1, r2, r3, r4, r5, r6, r7, r8⟩ := k5
  have kL : gi X (gp X c) 0 = nI L := by rw [k6]; exact k2
  have kn : gi X (gp X c) 1 = nI n := by rw [k6]; exact k3
  have ko : gi X (gp X c) 5 = nI o := by rw [k6]; exact k4
  have x0 : ∀ j, gi (si X (34 + 3 * c) 4 (nI w)) (65 + p) j = gi X (65 + p) j := fun j => gi_ne (Or.inl (by omega))
  have y0 : gi (si X (34 + 3 * c) 4 (nI w)) (34 + 3 * c) 0 = gi X (34 + 3 * c) 0 := gi_ne (Or.inr (by decide))
  have y1 : gi (si X (34 + 3 * c) 4 (nI w)) (34 + 3 * c) 2 = gi X (34 + 3 * c) 2 := gi_ne (Or.inr (by decide))
  have y2 : gi (si X (34 + 3 * c) 4 (nI w)) (34 + 3 * c) 3 = gi X (34 + 3 * c) 3 := gi_ne (Or.inr (by decide))
  have y4 : gi (si X (34 + 3 * c) 4 (nI w)) (34 + 3 * c) 6 = gi X (34 + 3 * c) 6 := gi_ne (Or.inr (by decide))
  have y5 : gi (si X (34 + 3 * c) 4 (nI w)) (35 + 3 * c) 0 = gi X (35 + 3 * c) 0 := gi_ne (Or.inl (by omega))
  have y6 : gi (si X (34 + 3 * c) 4 (nI w)) (35 + 3 * c) 1 = gi X (35 + 3 * c) 1 := gi_ne (Or.inl (by omega))
  have y7 : gi (si X (34 + 3 * c) 4 (nI w)) (35 + 3 * c) 2 = gi X (35 + 3 * c) 2 := gi_ne (Or.inl (by omega))
  have y9 : ∀ j, gi (si X (34 + 3 * c) 4 (nI w)) (36 + 3 * c) j = gi X (36 + 3 * c) j := fun j => gi_ne (Or.inl (by omega))
  have z0 : ∀ a j, a ≠ 20 → gi (si M 20 c (nI w)) a j = gi M a j := fun a j ha => gi_ne (Or.inl ha)
  refine ⟨p, L, n, o, ord, orow, w, opn, br, cr, k1, ?_⟩
  simp only [x0, gp_si, gi_eq, y0, y1, y2, y4, y5, y6, y7, y9, z0 14 _ (by decide), z0 15 _ (by decide), z0 16 _ (by decide), z0 17 _ (by decide), z0 18 _ (by decide), z0 19 _ (by decide), z0 21 _ (by decide), z0 23 _ (by decide)]
  exact ⟨k2, k3, k4, ⟨r0, r1, r2, r3, (hv n o kn r0.2.2.1 ko r0.2.2.2).1, (hv n o kn r0.2.2.1 ko r0.2.2.2).2, r6, r7, r8⟩, k6, k7, k8, k9, ⟨trivial, trivial⟩, k11, k12, k13, k14, k15⟩
theorem chipOk_br {X M : wM} {np nn c w : Nat} (hc : c < 6) (h : chipOk X M np nn c) (hv : w < 2) : chipOk (si X (35 + 3 * c) 0 (nI w)) (si M 17 c (nI w)) np nn c := by
  obtain ⟨p, L, n, o, ord, orow, lat, opn, br, cr, k1, k2, k3, k4, k5, k6, k7, k8, k9, k10, k11, k12, k13, k14, k15⟩ := h
  obtain ⟨r0, r1, r2, r3, r4, r5, r6, r7, r8⟩ := k5
  have kL : gi X (gp X c) 0 = nI L := by rw [k6]; exact k2
  have kn : gi X (gp X c) 1 = nI n := by rw [k6]; exact k3
  have ko : gi X (gp X c) 5 = nI o := by rw [k6]; exact k4
  have x0 : ∀ j, gi (si X (35 + 3 * c) 0 (nI w)) (65 + p) j = gi X (65 + p) j := fun j => gi_ne (Or.inl (by omega))
  have y0 : gi (si X (35 + 3 * c) 0 (nI w)) (34 + 3 * c) 0 = gi X (34 + 3 * c) 0 := gi_ne (Or.inl (by omega))
  have y1 : gi (si X (35 + 3 * c) 0 (nI w)) (34 + 3 * c) 2 = gi X (34 + 3 * c) 2 := gi_ne (Or.inl (by omega))
  have y2 : gi (si X (35 + 3 * c) 0 (nI w)) (34 + 3 * c) 3 = gi X (34 + 3 * c) 3 := gi_ne (Or.inl (by omega))
  have y3 : gi (si X (35 + 3 * c) 0 (nI w)) (34 + 3 * c) 4 = gi X (34 + 3 * c) 4 := gi_ne (Or.inl (by omega))
  have y4 : gi (si X (35 + 3 * c) 0 (nI w)) (34 + 3 * c) 6 = gi X (34 + 3 * c) 6 := gi_ne (Or.inl (by omega))
  have y6 : gi (si X (35 + 3 * c) 0 (nI w)) (35 + 3 * c) 1 = gi X (35 + 3 * c) 1 := gi_ne (Or.inr (by decide))
  have y7 : gi (si X (35 + 3 * c) 0 (nI w)) (35 + 3 * c) 2 = gi X (35 + 3 * c) 2 := gi_ne (Or.inr (by decide))
  have y9 : ∀ j, gi (si X (35 + 3 * c) 0 (nI w)) (36 + 3 * c) j = gi X (36 + 3 * c) j := fun j => gi_ne (Or.inl (by omega))
  have z0 : ∀ a j, a ≠ 17 → gi (si M 17 c (nI w)) a j = gi M a j := fun a j ha => gi_ne (Or.inl ha)
  refine ⟨p, L, n, o, ord, orow, lat, opn, w, cr, k1, ?_⟩
  simp only [x0, gp_si, gi_eq, y0, y1, y2, y3, y4, y6, y7, y9, z0 14 _ (by decide), z0 15 _ (by decide), z0 16 _ (by decide), z0 18 _ (by decide), z0 19 _ (by decide), z0 20 _ (by decide), z0 21 _ (by decide), z0 23 _ (by decide)]
  exact ⟨k2, k3, k4, ⟨r0, r1, r2, r3, r4, r5, r6, hv, r8⟩, k6, k7, k8, k9, k10, k11, ⟨trivial, trivial⟩, k13, k14, k15⟩
theorem chipOk_cr {X M : wM} {np nn c w : Nat} (hc : c < 6) (h : chipOk X M np nn c) (hv : ∀ n : Nat, gi X (gp X c) 1 = nI n → n ≤ 10 → w < 2 ^ n) : chipOk (si X (35 + 3 * c) 2 (nI w)) (si M 19 c (nI w)) np nn c := by
  obtain ⟨p, L, n, o, ord, orow, lat, opn, br, cr, k1, k2, k3, k4, k5, k6, k7, k8, k9, k10, k11, k12, k13, k14, k15⟩ := h
  obtain ⟨r0, r1, r2, r3, r4, r5, r6, r7, r8⟩ := k5
  have kL : gi X (gp X c) 0 = nI L := by rw [k6]; exact k2
  have kn : gi X (gp X c) 1 = nI n := by rw [k6]; exact k3
  have ko : gi X (gp X c) 5 = nI o := by rw [k6]; exact k4
  have x0 : ∀ j, gi (si X (35 + 3 * c) 2 (nI w)) (65 + p) j = gi X (65 + p) j := fun j => gi_ne (Or.inl (by omega))
  have y0 : gi (si X (35 + 3 * c) 2 (nI w)) (34 + 3 * c) 0 = gi X (34 + 3 * c) 0 := gi_ne (Or.inl (by omega))
  have y1 : gi (si X (35 + 3 * c) 2 (nI w)) (34 + 3 * c) 2 = gi X (34 + 3 * c) 2 := gi_ne (Or.inl (by omega))
  have y2 : gi (si X (35 + 3 * c) 2 (nI w)) (34 + 3 * c) 3 = gi X (34 + 3 * c) 3 := gi_ne (Or.inl (by omega))
  have y3 : gi (si X (35 + 3 * c) 2 (nI w)) (34 + 3 * c) 4 = gi X (34 + 3 * c) 4 := gi_ne (Or.inl (by omega))
  have y4 : gi (si X (35 + 3 * c) 2 (nI w)) (34 + 3 * c) 6 = gi X (34 + 3 * c) 6 := gi_ne (Or.inl (by omega))
  have y5 : gi (si X (35 + 3 * c) 2 (nI w)) (35 + 3 * c) 0 = gi X (35 + 3 * c) 0 := gi_ne (Or.inr (by decide))
  have y6 : gi (si X (35 + 3 * c) 2 (nI w)) (35 + 3 * c) 1 = gi X (35 + 3 * c) 1 := gi_ne (Or.inr (by decide))
  have y9 : ∀ j, gi (si X (35 + 3 * c) 2 (nI w)) (36 + 3 * c) j = gi X (36 + 3 * c) j := fun j => gi_ne (Or.inl (by omega))
  have z0 : ∀ a j, a ≠ 19 → gi (si M 19 c (nI w)) a j = gi M a j := fun a j ha => gi_ne (Or.inl ha)
  refine ⟨p, L, n, o, ord, orow, lat, opn, br, w, k1, ?_⟩
  simp only [x0, gp_si, gi_eq, y0, y1, y2, y3, y4, y5, y6, y9, z0 14 _ (by decide), z0 15 _ (by decide), z0 16 _ (by decide), z0 17 _ (by decide), z0 18 _ (by decide), z0 20 _ (by decide), z0 21 _ (by decide), z0 23 _ (by decide)]
  exact ⟨k2, k3, k4, ⟨r0, r1, r2, r3, r4, r5, r6, r7, hv n kn r0.2.2.1⟩, k6, k7, k8, k9, k10, k11, k12, k13, ⟨trivial, trivial⟩, k15⟩
