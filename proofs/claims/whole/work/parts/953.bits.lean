/-! bits; feet; open, lay -/
theorem sh_i : ∀ i, i < 32 → ((nI i &&& 31).toBitVec.smod 32).toNat = i := by decide
theorem ush_i : ∀ i, i < 32 → (((nI i).toUInt32 &&& Int32.toUInt32 31).toBitVec % 32).toNat = i := by decide
theorem bshr {a i : Nat} (ha : a < 2 ^ 31) (hi : i < 32) : jshr (nI a) (nI i) = nI (a / 2 ^ i) := pk_shrN ha _ i (sh_i i hi)
theorem bushr {a i : Nat} (ha : a < 2 ^ 32) (hi : i < 32) : jushr (nI a) (nI i) = nI (a / 2 ^ i) := pk_ushrN ha _ i (ush_i i hi)
theorem bshl {a i : Nat} (ha : a * 2 ^ i < 2 ^ 32) (hi : i < 32) : jshl (nI a) (nI i) = nI (a * 2 ^ i) := pk_shlN _ i (sh_i i hi) ha
theorem bshl1 {i : Nat} (hi : i < 32) : jshl (nI 1) (nI i) = nI (2 ^ i) := by
  have h : 2 ^ i < 2 ^ 32 := Nat.pow_lt_pow_right (by decide) hi
  rw [bshl (by omega) hi, Nat.one_mul]
theorem band1 {a : Nat} (h : a < 2 ^ 32) : nI a &&& nI 1 = nI (a % 2) := pk_andN h 1 (by decide)
theorem nI_bv {a : Nat} : (nI a).toBitVec = BitVec.ofNat 32 a := rfl
theorem nI_or {a b : Nat} (ha : a < 2 ^ 32) (hb : b < 2 ^ 32) : nI a ||| nI b = nI (a ||| b) := by
  apply Int32.toBitVec_inj.mp
  rw [Int32.toBitVec_or, nI_bv, nI_bv, nI_bv]
  apply BitVec.eq_of_toNat_eq
  rw [BitVec.toNat_or, BitVec.toNat_ofNat, BitVec.toNat_ofNat, BitVec.toNat_ofNat, Nat.mod_eq_of_lt ha, Nat.mod_eq_of_lt hb, Nat.mod_eq_of_lt (Nat.or_lt_two_pow ha hb)]
theorem nI_and {a b : Nat} (ha : a < 2 ^ 32) (hb : b < 2 ^ 32) : nI a &&& nI b = nI (a &&& b) := by
  apply Int32.toBitVec_inj.mp
  rw [Int32.toBitVec_and, nI_bv, nI_bv, nI_bv]
  apply BitVec.eq_of_toNat_eq
  rw [BitVec.toNat_and, BitVec.toNat_ofNat, BitVec.toNat_ofNat, BitVec.toNat_ofNat, Nat.mod_eq_of_lt ha, Nat.mod_eq_of_lt hb, Nat.mod_eq_of_lt (Nat.lt_of_le_of_lt Nat.and_le_left ha)]
theorem nI_not {b : Nat} (hb : b < 2 ^ 32) : nI b ^^^ (-1) = nI (2 ^ 32 - 1 - b) := by
  apply Int32.toBitVec_inj.mp
  rw [Int32.toBitVec_xor, show ((-1 : Int32)).toBitVec = BitVec.allOnes 32 by decide, BitVec.xor_allOnes, nI_bv, nI_bv]
  apply BitVec.eq_of_toNat_eq
  rw [BitVec.toNat_not, BitVec.toNat_ofNat, BitVec.toNat_ofNat, Nat.mod_eq_of_lt hb, Nat.mod_eq_of_lt (by omega)]
theorem nI_andn {a b : Nat} (ha : a < 2 ^ 32) (hb : b < 2 ^ 32) : nI a &&& (nI b ^^^ (-1)) = nI (a &&& (2 ^ 32 - 1 - b)) := by
  rw [nI_not hb, nI_and ha (by omega)]
theorem bitR {a i : Nat} (ha : a < 2 ^ 31) (hi : i < 32) : jushr (nI a) (nI i) &&& nI 1 = nI (a / 2 ^ i % 2) := by
  rw [bushr (by omega) hi, band1 (Nat.lt_of_le_of_lt (Nat.div_le_self _ _) (by omega))]
theorem bitS {a i : Nat} (ha : a < 2 ^ 31) (hi : i < 32) : jshr (nI a) (nI i) &&& nI 1 = nI (a / 2 ^ i % 2) := by
  rw [bshr ha hi, band1 (Nat.lt_of_le_of_lt (Nat.div_le_self _ _) (by omega))]
theorem p10 {n : Nat} (h : n ≤ 10) : 2 ^ n ≤ 1024 := Nat.pow_le_pow_right (by decide) h
theorem pt_part : ∀ p, p < 6 → ptX (65 + p) := by
  have h : ∀ p, p < 6 → shX[65 + p]? = some (3, 6) := by decide
  exact h
def isFoot (X : wM) (x1 x2 : Int32) : Prop := ∃ c i nc n : Nat, x1 = nI c ∧ x2 = nI i ∧ gi X 26 3 = nI nc ∧ c < nc ∧ nc ≤ 6 ∧ gi X (gp X c) 1 = nI n ∧ i < n ∧ n ≤ 10
theorem inj31 {a b : Nat} (e : nI a = nI b) (ha : a < 2 ^ 31) (hb : b < 2 ^ 31) : a = b := (nI_eq ha hb).mp e
theorem foot_nc {X : wM} {x1 x2 : Int32} {nc : Nat} (hn : nc ≤ 6) (e : gi X 26 3 = nI nc) (h : isFoot X x1 x2) : 0 ≤ x1.toInt ∧ x1.toInt < nc := by
  obtain ⟨c, i, nc2, n, a1, a2, a3, a4, a5, -⟩ := h
  obtain rfl : nc2 = nc := inj31 (a3.symm.trans e) (by omega) (by omega)
  rw [a1, nI_toInt (by omega)]
  omega
theorem foot_n {X : wM} {c n : Nat} {x2 : Int32} (hc : c < 2 ^ 31) (hn : n ≤ 10) (e : gi X (gp X c) 1 = nI n) (h : isFoot X (nI c) x2) : 0 ≤ x2.toInt ∧ x2.toInt < n := by
  obtain ⟨c', i, nc2, n2, a1, a2, a3, a4, a5, a6, a7, a8⟩ := h
  obtain rfl : c' = c := inj31 a1.symm (by omega) hc
  obtain rfl : n2 = n := inj31 (a6.symm.trans e) (by omega) (by omega)
  rw [a2, nI_toInt (by omega)]
  omega
theorem hasFoot_w {X M : wM} {x1 x2 : Int32} {Q : Int32 → wM → Prop} (h : iC X M) (q1 : isFoot X x1 x2 → Q (nI 1) X) (q0 : ¬ isFoot X x1 x2 → Q (nI 0) X) : w_X0_hasFoot x1 x2 X Q := by
  obtain ⟨nc, np, nn, h1, h2, h3, e1, e2, e3, e4, hc, -⟩ := h
  unfold w_X0_hasFoot w_X0_has
  rw [e1]
  by_cases c1 : 0 ≤ x1.toInt ∧ x1.toInt < nc
  · obtain ⟨c, hc1, rfl, ec⟩ := nI_ex (x := x1) c1.1
    obtain ⟨p, L, n, o, ord, orow, lat, opn, br, cr, k1, k2, k3, k4, k5, k6, -⟩ := hc c (by omega)
    have n10 := k5.1.2.2.1
    have e5 : gi X (gp X c) 1 = nI n := by rw [k6]; exact k3
    refine bf (by rw [lt_n (by decide)]; omega) (bf (by rw [n_le (by omega)]; omega) (bf ne10 ?_))
    rw [nI_clamp hc1, e5]
    refine bc (fun z => q0 (fun w => ?_)) (fun z => ⟨vp_in_nI (by omega) (by decide), by rw [k6]; exact pt_part p (by omega), bc (fun w => q0 (fun v => ?_)) (fun w => q1 ?_)⟩)
    · have := foot_n hc1 n10 e5 w
      rw [lt_n (by decide)] at z
      omega
    · have := foot_n hc1 n10 e5 v
      rw [n_le (by omega)] at w
      omega
    · rw [lt_n (by decide)] at z
      rw [n_le (by omega)] at w
      obtain ⟨i, hi1, rfl, ei⟩ := nI_ex (x := x2) (by omega)
      exact ⟨c, i, nc, n, rfl, rfl, e1, by omega, h1, e5, by omega, n10⟩
  · have no : ¬ isFoot X x1 x2 := fun z => c1 (foot_nc h1 e1 z)
    refine bc (fun _ => bt rfl (q0 no)) (fun z => bc (fun _ => bt rfl (q0 no)) (fun w => ?_))
    exfalso
    rw [lt_n (by decide)] at z
    rw [n_le (by omega)] at w
    omega
theorem isCell_w {X M : wM} {x1 x2 : Int32} {Q : Int32 → wM → Prop} (h : iC X M) (hp : iP X M) (q1 : isFoot X x1 x2 → Q (nI 1) M) (q0 : ¬ isFoot X x1 x2 → Q (nI 0) M) : w_X12_isCell x1 x2 M Q := by
  obtain ⟨nc, np, nn, h1, h2, h3, e1, e2, e3, e4, hc, -⟩ := h
  obtain ⟨np2, g1, g2, g3, g4⟩ := hp
  obtain rfl : np2 = np := inj31 (g2.symm.trans e3) (by omega) (by omega)
  unfold w_X12_isCell w_X12_isChip
  rw [e2]
  by_cases c1 : 0 ≤ x1.toInt ∧ x1.toInt < nc
  · obtain ⟨c, hc1, rfl, ec⟩ := nI_ex (x := x1) c1.1
    obtain ⟨p, L, n, o, ord, orow, lat, opn, br, cr, k1, k2, k3, k4, k5, k6, k7, -⟩ := hc c (by omega)
    have n10 := k5.1.2.2.1
    have e5 : gi X (gp X c) 1 = nI n := by rw [k6]; exact k3
    obtain ⟨L', n', o', idv, sa, ex, pr, -, pe, -⟩ := g4 p k1
    obtain rfl : n' = n := inj31 (pe.1.symm.trans k3) (by have := pr.2.2.1; omega) (by omega)
    refine in_t (by decide) (hi_S (by omega)) ⟨c1.1, by omega⟩ ⟨Or.inr rfl, bf ne10 ⟨vp_in_nI (by omega) (by decide), ?_⟩⟩
    rw [nI_clamp hc1, k7.2, nI_clamp (by omega), pe.2]
    refine ⟨vp_in_nI (by omega) (by decide), ?_⟩
    by_cases c2 : 0 ≤ x2.toInt ∧ x2.toInt < n'
    · obtain ⟨i, hi1, rfl, ei⟩ := nI_ex (x := x2) c2.1
      exact in_t (by decide) (hi_S (by omega)) ⟨c2.1, by omega⟩ (bf ne10 (q1 ⟨c, i, nc, n', rfl, rfl, e1, by omega, h1, e5, by omega, n10⟩))
    · exact in_f (by decide) (hi_S (by omega)) (by omega) (bt rfl (q0 (fun z => c2 (foot_n hc1 n10 e5 z))))
  · have no : ¬ isFoot X x1 x2 := fun z => c1 (foot_nc h1 e1 z)
    exact in_f (by decide) (hi_S (by omega)) (by omega) ⟨Or.inl rfl, bt rfl (q0 no)⟩
/-- one chip's opens are written -/
theorem iC_opens {X M : wM} {c opn' : Nat} (h : iC X M) (hc : c < 6) (hr : ∀ n opn : Nat, gi X (gp X c) 1 = nI n → n ≤ 10 → gi X (34 + 3 * c) 6 = nI opn → opn < 2 ^ n → opn' < 2 ^ n) (hlt : ∃ nc : Nat, nc ≤ 6 ∧ gi X 26 3 = nI nc ∧ c < nc) : iC (si X (34 + 3 * c) 6 (nI opn')) (si M 21 c (nI opn')) := by
  obtain ⟨nc, np, nn, h1, h2, h3, e1, e2, e3, e4, k, kn⟩ := h
  obtain ⟨nc2, m1, m2, m3⟩ := hlt
  obtain rfl : nc2 = nc := inj31 (m2.symm.trans e1) (by omega) (by omega)
  have x0 : ∀ p j, p < 6 → gi (si X (34 + 3 * c) 6 (nI opn')) (65 + p) j = gi X (65 + p) j := fun p j hp => gi_ne (Or.inl (by omega))
  refine ⟨nc2, np, nn, h1, h2, h3, by rw [gi_ne (Or.inl (by omega))]; exact e1, by rw [gi_ne (Or.inl (by decide))]; exact e2, by rw [gi_ne (Or.inl (by omega))]; exact e3, by rw [gi_ne (Or.inl (by omega))]; exact e4, fun c' hc' => ?_, fun c' z w => ?_⟩
  · by_cases hcc : c' = c
    · subst hcc
      obtain ⟨p, L, n, o, ord, orow, lat, opn, br, cr, k1, k2, k3, k4, k5, k6, k7, k8, k9, k10, k11, k12, k13, k14, k15⟩ := k c' hc'
      obtain ⟨r0, r1, r2, r3, r4, r5, r6, r7, r8⟩ := k5
      have ho := hr n opn (by rw [k6]; exact k3) r0.2.2.1 k11.1 r6
      refine ⟨p, L, n, o, ord, orow, lat, opn', br, cr, k1, ?_⟩
      rw [x0 p 0 (by omega), x0 p 1 (by omega), x0 p 5 (by omega)]
      refine ⟨k2, k3, k4, ⟨r0, r1, r2, r3, r4, r5, ho, r7, r8⟩, k6, ?_⟩
      simp only [gi_eq, gi_ne (M := X) (a := 34 + 3 * c') (j := 6) (a' := 34 + 3 * c') (j' := 0) (Or.inr (by decide)), gi_ne (M := X) (a := 34 + 3 * c') (j := 6) (a' := 34 + 3 * c') (j' := 2) (Or.inr (by decide)), gi_ne (M := X) (a := 34 + 3 * c') (j := 6) (a' := 34 + 3 * c') (j' := 3) (Or.inr (by decide)), gi_ne (M := X) (a := 34 + 3 * c') (j := 6) (a' := 34 + 3 * c') (j' := 4) (Or.inr (by decide))]
      have y1 : ∀ j, gi (si X (34 + 3 * c') 6 (nI opn')) (35 + 3 * c') j = gi X (35 + 3 * c') j := fun j => gi_ne (Or.inl (by omega))
      have y2 : ∀ j, gi (si X (34 + 3 * c') 6 (nI opn')) (36 + 3 * c') j = gi X (36 + 3 * c') j := fun j => gi_ne (Or.inl (by omega))
      have y3 : ∀ a j, a ≠ 21 → gi (si M 21 c' (nI opn')) a j = gi M a j := fun a j ha => gi_ne (Or.inl ha)
      simp only [y1, y2, y3 14 _ (by decide), y3 15 _ (by decide), y3 16 _ (by decide), y3 17 _ (by decide), y3 18 _ (by decide), y3 19 _ (by decide), y3 20 _ (by decide), y3 23 _ (by decide)]
      exact ⟨k7, k8, k9, k10, ⟨trivial, trivial⟩, k12, k13, k14, k15⟩
    · obtain ⟨p, L, n, o, ord, orow, lat, opn, br, cr, kk⟩ := k c' hc'
      refine ⟨p, L, n, o, ord, orow, lat, opn, br, cr, kk.1, ?_⟩
      have hp6 := kk.1
      have y1 : ∀ i j, i < 3 → gi (si X (34 + 3 * c) 6 (nI opn')) (34 + i + 3 * c') j = gi X (34 + i + 3 * c') j := fun i j hi => gi_ne (Or.inl (by omega))
      have y3 : ∀ a j, a ≠ 21 → gi (si M 21 c (nI opn')) a j = gi M a j := fun a j ha => gi_ne (Or.inl ha)
      have y4 : gi (si M 21 c (nI opn')) 21 c' = gi M 21 c' := gi_ne (Or.inr hcc)
      simp only [x0 p _ (by omega : p < 6), y1 0 _ (by decide), y1 1 _ (by decide), y1 2 _ (by decide), y4, y3 14 _ (by decide), y3 15 _ (by decide), y3 16 _ (by decide), y3 17 _ (by decide), y3 18 _ (by decide), y3 19 _ (by decide), y3 20 _ (by decide), y3 23 _ (by decide)]
      exact kk.2
  · have y1 : ∀ i j, i < 3 → gi (si X (34 + 3 * c) 6 (nI opn')) (34 + i + 3 * c') j = gi X (34 + i + 3 * c') j := fun i j hi => gi_ne (Or.inl (by omega))
    exact chipNo_fr (kn c' z w) (fun j => y1 0 j (by decide)) (fun j => y1 1 j (by decide)) (fun j => y1 2 j (by decide))
theorem rg_34 {c : Nat} {j : Nat} (hc : c < 6) : cX (34 + 3 * c) j ∈ [34, 37, 40, 43, 46, 49] := by
  rcases (show c = 0 ∨ c = 1 ∨ c = 2 ∨ c = 3 ∨ c = 4 ∨ c = 5 by omega) with rfl | rfl | rfl | rfl | rfl | rfl <;> simp [cX]
theorem law_open (x1 x2 x3 : Int32) (Mx Mm : wM) (h : Inv Mx Mm) (_ : x3 = nI 0 ∨ x3 = nI 1) : w_X11_open x1 x2 x3 Mx (fun r A => w_X12_open x1 x2 x3 Mm (fun r2 B => r = r2 ∧ Inv A B)) := by
  have hC := h.2.2.2.1
  unfold w_X11_open w_X12_open
  refine hasFoot_w hC (fun f => bf ne10 ?_) (fun f => bt rfl (isCell_w hC h.2.2.1 (fun z => absurd z f) (fun _ => bt rfl ⟨rfl, h⟩)))
  obtain ⟨c, i, nc, n, rfl, rfl, a3, a4, a5, a6, a7, a8⟩ := id f
  obtain ⟨nc2, np, nn, h1, h2, h3, e1, e2, e3, e4, k, -⟩ := id hC
  obtain rfl : nc2 = nc := inj31 (e1.symm.trans a3) (by omega) (by omega)
  obtain ⟨p, L, n2, o, ord, orow, lat, opn, br, cr, k1, k2, k3, k4, k5, k6, k7, k8, k9, k10, k11, -⟩ := k c a4
  obtain rfl : n2 = n := inj31 (k3.symm.trans (by rw [← k6]; exact a6)) (by have := k5.1.2.2.1; omega) (by omega)
  have ho := k5.2.2.2.2.2.2.1
  have h10 := p10 a8
  have hi2 : 2 ^ i < 2 ^ n2 := Nat.pow_lt_pow_right (by decide) a7
  unfold w_X11_bit
  rw [nI_clamp (by omega)]
  refine ⟨vp_in_nI (by omega) (by decide), ?_⟩
  rw [k11.1, bitR (by omega) (by omega), bshl1 (by omega)]
  dsimp only
  rw [k11.1, nI_or (by omega) (by omega), nI_andn (by omega) (by omega)]
  have fin : ∀ v : Nat, v < 2 ^ n2 → Inv (si Mx (34 + 3 * c) 6 (nI v)) (si Mm 21 c (nI v)) := fun v hv =>
    Inv_fr (T := [34, 37, 40, 43, 46, 49]) (S := [21]) h (sX_si (rg_34 (by omega))) (sM_si (by simp [cM])) (hC := Or.inr (iC_opens hC (by omega) (fun n' opn2 b1 b2 b3 b4 => by
      obtain rfl : n' = n2 := inj31 (b1.symm.trans a6) (by omega) (by omega)
      exact hv) ⟨nc2, h1, e1, a4⟩))
  have v6 : vp_in (nI c) 6 := vp_in_nI (by omega) (by decide)
  refine bc (fun z => isCell_w hC h.2.2.1 (fun _ => bf ne10 ⟨v6, bt z ⟨v6, v6, ?_⟩⟩) (fun w => absurd f w)) (fun z => isCell_w hC h.2.2.1 (fun _ => bf ne10 ⟨v6, bf z ⟨v6, v6, ?_⟩⟩) (fun w => absurd f w))
  · rw [k11.2, bitS (by omega) (by omega), nI_andn (by omega) (by omega)]
    exact ⟨rfl, fin _ (Nat.lt_of_le_of_lt Nat.and_le_left ho)⟩
  · rw [k11.2, bitS (by omega) (by omega), nI_or (by omega) (by omega)]
    exact ⟨rfl, fin _ (Nat.or_lt_two_pow ho hi2)⟩
