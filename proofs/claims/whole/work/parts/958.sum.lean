/-! all of a chip; sums over the chips -/
def chipAll (X M : wM) (np nn c p L n o : Nat) (idv sa ex : Int32) (ord orow lat opn br cr : Nat) : Prop := p < np ∧ partR L n o idv sa ex ∧ chipR L n o ord orow lat opn br cr ∧ gp X c = 65 + p ∧ (gi X (34 + 3 * c) 0 = nI p ∧ gi M 14 c = nI p) ∧
  ((gi X (65 + p) 0 = nI L ∧ gi M 1 p = nI L) ∧ (gi X (65 + p) 1 = nI n ∧ gi M 5 p = nI n) ∧ (gi X (65 + p) 5 = nI o ∧ gi M 6 p = nI o) ∧ (gi X (65 + p) 2 = idv ∧ gi M 2 p = idv) ∧ (gi X (65 + p) 3 = sa ∧ gi M 3 p = sa) ∧ gi X (65 + p) 4 = ex ∧ gi M 4 p = ex) ∧
  ((gi X (34 + 3 * c) 2 = nI ord ∧ gi M 15 c = nI ord) ∧ (gi X (34 + 3 * c) 3 = nI orow ∧ gi M 16 c = nI orow) ∧ (gi X (34 + 3 * c) 4 = nI lat ∧ gi M 20 c = nI lat) ∧ (gi X (34 + 3 * c) 6 = nI opn ∧ gi M 21 c = nI opn) ∧ (gi X (35 + 3 * c) 0 = nI br ∧ gi M 17 c = nI br) ∧ gi X (35 + 3 * c) 1 = gi M 18 c ∧ (gi X (35 + 3 * c) 2 = nI cr ∧ gi M 19 c = nI cr)) ∧ ∀ i, i < 10 → gi X (36 + 3 * c) i = gi M 23 (10 * c + i) ∧ netR nn n i (gi X (36 + 3 * c) i)
theorem chip_all {X M : wM} {nc np nn c : Nat} (hp : iP X M) (hnp : np ≤ 6) (e : gi X 0 3 = nI np) (h : chipOk X M np nn c) : ∃ (p L n o : Nat) (idv sa ex : Int32) (ord orow lat opn br cr : Nat), chipAll X M np nn c p L n o idv sa ex ord orow lat opn br cr := by
  obtain ⟨np2, g1, g2, g3, g4⟩ := hp
  obtain rfl : np2 = np := inj31 (g2.symm.trans e) (by omega) (by omega)
  obtain ⟨p, L, n, o, ord, orow, lat, opn, br, cr, k1, k2, k3, k4, k5, k6, k7, k8⟩ := h
  obtain ⟨L', n', o', idv, sa, ex, pr, a0, a1, a5, a2, a3, a4⟩ := g4 p k1
  have q1 := p10 pr.2.2.1
  have q2 := p10 k5.1.2.2.1
  have q3 := pr.2.1
  have q4 := pr.2.2.1
  have q5 := pr.2.2.2.1
  have q6 := k5.1
  obtain rfl : L' = L := inj31 (a0.1.symm.trans k2) (by omega) (by omega)
  obtain rfl : n' = n := inj31 (a1.1.symm.trans k3) (by omega) (by omega)
  obtain rfl : o' = o := inj31 (a5.1.symm.trans k4) (by omega) (by omega)
  exact ⟨p, L', n', o', idv, sa, ex, ord, orow, lat, opn, br, cr, k1, pr, k5, k6, k7, ⟨a0, a1, a5, a2, a3, a4⟩, ⟨k8.1, k8.2.1, k8.2.2.1, k8.2.2.2.1, k8.2.2.2.2.1, k8.2.2.2.2.2.1, k8.2.2.2.2.2.2.1⟩, k8.2.2.2.2.2.2.2⟩
theorem Inv_nc {X M : wM} (h : Inv X M) : ∃ nc np nn : Nat, nc ≤ 6 ∧ np ≤ 6 ∧ nn ≤ 8 ∧ gi X 26 3 = nI nc ∧ gi M 0 22 = nI nc ∧ gi X 0 3 = nI np ∧ gi M 0 0 = nI np ∧ gi X 12 0 = nI nn ∧ gi M 0 41 = nI nn ∧ ∀ c, c < nc → ∃ (p L n o : Nat) (idv sa ex : Int32) (ord orow lat opn br cr : Nat), chipAll X M np nn c p L n o idv sa ex ord orow lat opn br cr := by
  obtain ⟨nc, np, nn, h1, h2, h3, f1, f2, f3, f4, k, -⟩ := h.2.2.2.1
  obtain ⟨np2, g1, g2, g3, -⟩ := id h.2.2.1
  obtain ⟨nn2, m1, m2, m3, -⟩ := h.2.2.2.2.2.2.2.1
  obtain rfl : np2 = np := inj31 (g2.symm.trans f3) (by omega) (by omega)
  obtain rfl : nn2 = nn := inj31 (m2.symm.trans f4) (by omega) (by omega)
  exact ⟨nc, np2, nn2, h1, h2, h3, f1, f2, f3, g3, f4, m3, fun c hc => chip_all (nc := nc) h.2.2.1 h2 f3 (k c hc)⟩
def sm (f : Nat → Nat) : Nat → Nat
  | 0 => 0
  | k + 1 => sm f k + f k
theorem sm_le {f : Nat → Nat} {b : Nat} : ∀ k, (∀ c, c < k → f c ≤ b) → sm f k ≤ b * k
  | 0, _ => Nat.le_refl _
  | k + 1, h => by
    have := sm_le k (fun c hc => h c (by omega))
    have h2 := h k (by omega)
    show sm f k + f k ≤ b * (k + 1)
    rw [Nat.mul_succ]
    omega
def lenC (X : wM) (c : Nat) : Nat := (gi X (gp X c) 0).toNatClampNeg
def celC (X : wM) (c : Nat) : Nat := (gi X (gp X c) 1).toNatClampNeg
theorem ordbX {X : wM} {nc : Nat} {Q : Int32 → wM → Prop} (hn : nc ≤ 6) (e : gi X 26 3 = nI nc) (hc : ∀ c, c < nc → ptX (gp X c) ∧ gi X (gp X c) 0 = nI (lenC X c)) (q : Q (nI (sm (lenC X) nc)) X) : w_X0_orderBits X Q := by
  have key : ∀ k i, i + k = nc → wL_X0_orderBits_4 Q (k + 1) (nI (sm (lenC X) i)) (nI i) X := by
    intro k
    induction k with
    | zero =>
      intro i hi
      obtain rfl : i = nc := by omega
      show wb_X0_orderBits_4 _ _ _ X Q
      unfold wb_X0_orderBits_4
      rw [e]
      exact bt (nI_le (by omega) (by omega)) q
    | succ k ih =>
      intro i hi
      show wb_X0_orderBits_4 (wL_X0_orderBits_4 Q (k + 1)) _ _ X Q
      unfold wb_X0_orderBits_4
      rw [e, nI_clamp (by omega), (hc i (by omega)).2, nI_add, nI_add]
      exact bf (nI_ge (by omega) (by omega)) ⟨vp_in_nI (by omega) (by decide), (hc i (by omega)).1, ih (i + 1) (by omega)⟩
  exact ⟨nc + 1, key nc 0 (by omega)⟩
theorem lenM {M : wM} {nc : Nat} {f P : Nat → Nat} {Q : Int32 → wM → Prop} (hn : nc ≤ 6) (e : gi M 0 22 = nI nc) (hc : ∀ c, c < nc → P c < 6 ∧ gi M 14 c = nI (P c) ∧ gi M 1 (P c) = nI (f c)) (q : Q (nI (sm f nc)) M) : w_X12_lengths M Q := by
  have key : ∀ k i, i + k = nc → wL_X12_lengths_4 Q (k + 1) (nI (sm f i)) (nI i) M := by
    intro k
    induction k with
    | zero =>
      intro i hi
      obtain rfl : i = nc := by omega
      show wb_X12_lengths_4 _ _ _ M Q
      unfold wb_X12_lengths_4
      rw [e]
      exact bt (nI_le (by omega) (by omega)) q
    | succ k ih =>
      intro i hi
      show wb_X12_lengths_4 (wL_X12_lengths_4 Q (k + 1)) _ _ M Q
      unfold wb_X12_lengths_4
      obtain ⟨p1, p2, p3⟩ := hc i (by omega)
      rw [e, nI_clamp (by omega), p2, nI_clamp (by omega), p3, nI_add, nI_add]
      exact bf (nI_ge (by omega) (by omega)) ⟨vp_in_nI (by omega) (by decide), vp_in_nI p1 (by decide), ih (i + 1) (by omega)⟩
  exact ⟨nc + 1, key nc 0 (by omega)⟩
theorem celX {X : wM} {nc : Nat} {f : Nat → Nat} {Q : Int32 → wM → Prop} (hn : nc ≤ 6) (e : gi X 26 3 = nI nc) (hc : ∀ c, c < nc → ptX (gp X c) ∧ gi X (gp X c) 1 = nI (f c)) (q : Q (nI (sm f nc)) X) : w_X0_cellCount X Q := by
  have key : ∀ k i, i + k = nc → wL_X0_cellCount_4 Q (k + 1) (nI (sm f i)) (nI i) X := by
    intro k
    induction k with
    | zero =>
      intro i hi
      obtain rfl : i = nc := by omega
      show wb_X0_cellCount_4 _ _ _ X Q
      unfold wb_X0_cellCount_4
      rw [e]
      exact bt (nI_le (by omega) (by omega)) q
    | succ k ih =>
      intro i hi
      have ih2 := ih (i + 1) (by omega)
      have hi6 : i < 6 := by omega
      have c := hc i (by omega)
      show wb_X0_cellCount_4 (wL_X0_cellCount_4 Q (k + 1)) _ _ X Q
      unfold wb_X0_cellCount_4
      rw [e, nI_clamp (by omega)]
      refine bf (nI_ge (by omega) (by omega)) ⟨vp_in_nI hi6 (by decide), ?_⟩
      rw [c.2, nI_add, nI_add]
      exact ⟨c.1, ih2⟩
  exact ⟨nc + 1, key nc 0 (by omega)⟩
theorem opnX {X : wM} {nc : Nat} {f : Nat → Nat} {Q : Int32 → wM → Prop} (hn : nc ≤ 6) (e : gi X 26 3 = nI nc) (hc : ∀ c, c < nc → ∃ v, v < 1024 ∧ gi X (34 + 3 * c) 6 = nI v ∧ f c = ones v 16) (q : Q (nI (sm f nc)) X) : w_X0_openCount X Q := by
  have key : ∀ k i, i + k = nc → wL_X0_openCount_4 Q (k + 1) (nI (sm f i)) (nI i) X := by
    intro k
    induction k with
    | zero =>
      intro i hi
      obtain rfl : i = nc := by omega
      show wb_X0_openCount_4 _ _ _ X Q
      unfold wb_X0_openCount_4
      rw [e]
      exact bt (nI_le (by omega) (by omega)) q
    | succ k ih =>
      intro i hi
      have ih2 := ih (i + 1) (by omega)
      have hi6 : i < 6 := by omega
      have c := hc i (by omega)
      show wb_X0_openCount_4 (wL_X0_openCount_4 Q (k + 1)) _ _ X Q
      unfold wb_X0_openCount_4
      rw [e, nI_clamp (by omega)]
      refine bf (nI_ge (by omega) (by omega)) ⟨vp_in_nI hi6 (by decide), ?_⟩
      obtain ⟨v, v1, v2, v3⟩ := c
      rw [v2]
      refine bitC v1 ?_
      rw [← v3, nI_add, nI_add]
      exact ih2
  exact ⟨nc + 1, key nc 0 (by omega)⟩
theorem tstX {X : wM} {nc : Nat} {f : Nat → Nat} {Q : Int32 → wM → Prop} (hn : nc ≤ 6) (e : gi X 26 3 = nI nc) (hc : ∀ c, c < nc → ptX (gp X c) ∧ ((gi X (gp X c) 4 = -4 ∧ f c = 1) ∨ (¬ gi X (gp X c) 4 = -4 ∧ gi X (gp X c) 1 = nI (f c)))) (q : Q (nI (sm f nc)) X) : w_X0_testBits X Q := by
  have key : ∀ k i, i + k = nc → wL_X0_testBits_4 Q (k + 1) (nI (sm f i)) (nI i) X := by
    intro k
    induction k with
    | zero =>
      intro i hi
      obtain rfl : i = nc := by omega
      show wb_X0_testBits_4 _ _ _ X Q
      unfold wb_X0_testBits_4
      rw [e]
      exact bt (nI_le (by omega) (by omega)) q
    | succ k ih =>
      intro i hi
      have ih2 := ih (i + 1) (by omega)
      have hi6 : i < 6 := by omega
      have c := hc i (by omega)
      show wb_X0_testBits_4 (wL_X0_testBits_4 Q (k + 1)) _ _ X Q
      unfold wb_X0_testBits_4
      rw [e, nI_clamp (by omega)]
      refine bf (nI_ge (by omega) (by omega)) ⟨vp_in_nI hi6 (by decide), ?_⟩
      rcases c with ⟨c0, ⟨c1, c2⟩ | ⟨c1, c2⟩⟩
      · refine ⟨c0, bt c1 ?_⟩
        rw [show sm f (i + 1) = sm f i + f i from rfl, c2] at ih2
        rw [nI_add, nI_add]
        exact ih2
      · refine ⟨c0, bf c1 ⟨vp_in_nI hi6 (by decide), c0, ?_⟩⟩
        rw [c2, nI_add, nI_add]
        exact ih2
  exact ⟨nc + 1, key nc 0 (by omega)⟩
theorem stkX {X : wM} {nc : Nat} {f : Nat → Nat} {Q : Int32 → wM → Prop} (hn : nc ≤ 8) (e : gi X 12 0 = nI nc) (hc : ∀ c, c < nc → (gi X 14 c = -4 ∧ f c = 0) ∨ (¬ gi X 14 c = -4 ∧ f c = 1)) (q : Q (nI (sm f nc)) X) : w_X3_stuckCount X Q := by
  have key : ∀ k i, i + k = nc → wL_X3_stuckCount_4 Q (k + 1) (nI (sm f i)) (nI i) X := by
    intro k
    induction k with
    | zero =>
      intro i hi
      obtain rfl : i = nc := by omega
      show wb_X3_stuckCount_4 _ _ _ X Q
      unfold wb_X3_stuckCount_4
      rw [e]
      exact bt (nI_le (by omega) (by omega)) q
    | succ k ih =>
      intro i hi
      have ih2 := ih (i + 1) (by omega)
      have hi6 : i < 8 := by omega
      have c := hc i (by omega)
      show wb_X3_stuckCount_4 (wL_X3_stuckCount_4 Q (k + 1)) _ _ X Q
      unfold wb_X3_stuckCount_4
      rw [e, nI_clamp (by omega)]
      refine bf (nI_ge (by omega) (by omega)) ⟨vp_in_nI hi6 (by decide), ?_⟩
      rcases c with ⟨c1, c2⟩ | ⟨c1, c2⟩
      · refine bt c1 ?_
        rw [show sm f (i + 1) = sm f i + f i from rfl, c2] at ih2
        rw [nI_add, nI_add]
        exact ih2
      · refine bf c1 ?_
        rw [show sm f (i + 1) = sm f i + f i from rfl, c2] at ih2
        rw [nI_add, nI_add]
        exact ih2
  exact ⟨nc + 1, key nc 0 (by omega)⟩
/-- how many of b in [lo, lo + k) hang at a -/
def cnt (s : Nat → Nat → Bool) (a lo : Nat) : Nat → Nat
  | 0 => 0
  | k + 1 => cnt s a lo k + (s a (lo + k)).toNat
def cnt2 (s : Nat → Nat → Bool) (n : Nat) : Nat → Nat
  | 0 => 0
  | a + 1 => cnt2 s n a + cnt s a (a + 1) (n - (a + 1))
def cnt3 (s : Nat → Nat → Bool) : Nat → Nat
  | 0 => 0
  | a + 1 => cnt3 s a + cnt s a 0 a
theorem cnt_le (s : Nat → Nat → Bool) (a lo k : Nat) : cnt s a lo k ≤ k := by
  induction k with
  | zero => exact Nat.le_refl _
  | succ k ih =>
    show cnt s a lo k + (s a (lo + k)).toNat ≤ k + 1
    have := Bool.toNat_le (s a (lo + k))
    omega
theorem cnt2_step (s : Nat → Nat → Bool) (hs : ∀ a b, s a b = s b a) (n : Nat) : ∀ a, a ≤ n → cnt2 s (n + 1) a = cnt2 s n a + cnt s n 0 a := by
  intro a
  induction a with
  | zero => intro _; rfl
  | succ a ih =>
    intro ha
    show cnt2 s (n + 1) a + cnt s a (a + 1) (n + 1 - (a + 1)) = cnt2 s n a + cnt s a (a + 1) (n - (a + 1)) + (cnt s n 0 a + (s n (0 + a)).toNat)
    rw [ih (by omega), show n + 1 - (a + 1) = (n - (a + 1)) + 1 by omega]
    show cnt2 s n a + cnt s n 0 a + (cnt s a (a + 1) (n - (a + 1)) + (s a (a + 1 + (n - (a + 1)))).toNat) = _
    rw [show a + 1 + (n - (a + 1)) = n by omega, hs a n, Nat.zero_add]
    omega
theorem cnt23 (s : Nat → Nat → Bool) (hs : ∀ a b, s a b = s b a) : ∀ n, cnt2 s n n = cnt3 s n := by
  intro n
  induction n with
  | zero => rfl
  | succ n ih =>
    show cnt2 s (n + 1) n + cnt s n (n + 1) (n + 1 - (n + 1)) = cnt3 s n + cnt s n 0 n
    rw [cnt2_step s hs n n (Nat.le_refl _), ih, Nat.sub_self]
    rfl
theorem shcX {X : wM} {nn : Nat} {s : Nat → Nat → Bool} {Q : Int32 → wM → Prop} (hn : nn ≤ 8) (e : gi X 12 0 = nI nn) (hs : ∀ a b, a < nn → b < nn → (s a b = false ↔ gi X (16 + a) b = -4)) (q : Q (nI (cnt2 s nn nn)) X) : w_X3_shortCount X Q := by
  have key : ∀ k a, a + k = nn → wL_X3_shortCount_4 Q (k + 1) (nI (cnt2 s nn a)) (nI a) X := by
    intro k
    induction k with
    | zero =>
      intro a ha
      obtain rfl : a = nn := by omega
      show wb_X3_shortCount_4 _ _ _ X Q
      unfold wb_X3_shortCount_4
      rw [e]
      exact bt (nI_le (by omega) (by omega)) q
    | succ k ih =>
      intro a ha
      show wb_X3_shortCount_4 (wL_X3_shortCount_4 Q (k + 1)) _ _ X Q
      unfold wb_X3_shortCount_4
      rw [e]
      refine bf (nI_ge (by omega) (by omega)) ?_
      have key2 : ∀ j m, m + j = nn - (a + 1) → wL_X3_shortCount_16 (nI a) (wL_X3_shortCount_4 Q (k + 1)) Q (j + 1) (nI (cnt2 s nn a + cnt s a (a + 1) m)) (nI (a + 1 + m)) X := by
        intro j
        induction j with
        | zero =>
          intro m hm
          obtain rfl : m = nn - (a + 1) := by omega
          show wb_X3_shortCount_16 (nI a) _ _ _ _ X Q
          unfold wb_X3_shortCount_16
          rw [e, nI_add a 1]
          exact bt (nI_le (by omega) (by omega)) (ih (a + 1) (by omega))
        | succ j ih2 =>
          intro m hm
          have ih3 := ih2 (m + 1) (by omega)
          show wb_X3_shortCount_16 (nI a) _ (wL_X3_shortCount_16 (nI a) (wL_X3_shortCount_4 Q (k + 1)) Q (j + 1)) _ _ X Q
          unfold wb_X3_shortCount_16
          rw [e, nI_clamp (by omega), nI_clamp (by omega)]
          refine bf (nI_ge (by omega) (by omega)) ⟨vp_in_nI (by omega) (by decide), vp_in_nI (by omega) (by decide), ?_⟩
          rw [show cnt s a (a + 1) (m + 1) = cnt s a (a + 1) m + (s a (a + 1 + m)).toNat from rfl] at ih3
          rw [nI_add _ 0, nI_add _ 1, nI_add _ 1]
          refine bc (fun z => ?_) (fun z => ?_)
          · rw [(hs a (a + 1 + m) (by omega) (by omega)).mpr z] at ih3
            exact ih3
          · have : s a (a + 1 + m) = true := by
              cases hh : s a (a + 1 + m)
              · exact absurd ((hs a (a + 1 + m) (by omega) (by omega)).mp hh) z
              · rfl
            rw [this] at ih3
            exact ih3
      rw [nI_add]
      exact ⟨_, key2 (nn - (a + 1)) 0 (by omega)⟩
  exact ⟨nn + 1, key nn 0 (by omega)⟩
