/-! loops; bits; a chip's numbers as functions -/
theorem lo1 {L : Nat → Int32 → wM → Prop} (B : (Int32 → wM → Prop) → Int32 → wM → Prop) (hL : ∀ k y M, L (k + 1) y M = B (L k) y M) {i0 : Nat} (n : Nat) (I : Nat → wM → Prop)
    (step : ∀ i M K, i < n → I i M → (∀ M', I (i + 1) M' → K (nI (i + 1)) M') → B K (nI i) M) (fin : ∀ M K, I n M → B K (nI n) M) (hi : i0 ≤ n) {M : wM} (h0 : I i0 M) : ∃ k, L k (nI i0) M := by
  have key : ∀ k i M, i + k = n → I i M → L (k + 1) (nI i) M := by
    intro k
    induction k with
    | zero =>
      intro i M hi h
      obtain rfl : i = n := by omega
      rw [hL]
      exact fin M _ h
    | succ k ih =>
      intro i M hi h
      rw [hL]
      exact step i M _ (by omega) h (fun M' h' => ih (i + 1) M' (by omega) h')
  exact ⟨n - i0 + 1, key (n - i0) i0 M (by omega) h0⟩
theorem lo2 {L : Nat → Int32 → Int32 → wM → Prop} (B : (Int32 → Int32 → wM → Prop) → Int32 → Int32 → wM → Prop) (hL : ∀ k a y M, L (k + 1) a y M = B (L k) a y M) {i0 : Nat} (n : Nat) (I : Nat → Int32 → wM → Prop)
    (step : ∀ i a M K, i < n → I i a M → (∀ a' M', I (i + 1) a' M' → K a' (nI (i + 1)) M') → B K a (nI i) M) (fin : ∀ a M K, I n a M → B K a (nI n) M) (hi : i0 ≤ n) {a : Int32} {M : wM} (h0 : I i0 a M) : ∃ k, L k a (nI i0) M := by
  have key : ∀ k i a M, i + k = n → I i a M → L (k + 1) a (nI i) M := by
    intro k
    induction k with
    | zero =>
      intro i a M hi h
      obtain rfl : i = n := by omega
      rw [hL]
      exact fin a M _ h
    | succ k ih =>
      intro i a M hi h
      rw [hL]
      exact step i a M _ (by omega) h (fun a' M' h' => ih (i + 1) a' M' (by omega) h')
  exact ⟨n - i0 + 1, key (n - i0) i0 a M (by omega) h0⟩
theorem lo3 {L : Nat → Int32 → Int32 → Int32 → wM → Prop} (B : (Int32 → Int32 → Int32 → wM → Prop) → Int32 → Int32 → Int32 → wM → Prop) (hL : ∀ k a b y M, L (k + 1) a b y M = B (L k) a b y M) {i0 : Nat} (n : Nat) (I : Nat → Int32 → Int32 → wM → Prop)
    (step : ∀ i a b M K, i < n → I i a b M → (∀ a' b' M', I (i + 1) a' b' M' → K a' b' (nI (i + 1)) M') → B K a b (nI i) M) (fin : ∀ a b M K, I n a b M → B K a b (nI n) M) (hi : i0 ≤ n) {a b : Int32} {M : wM} (h0 : I i0 a b M) : ∃ k, L k a b (nI i0) M := by
  have key : ∀ k i a b M, i + k = n → I i a b M → L (k + 1) a b (nI i) M := by
    intro k
    induction k with
    | zero =>
      intro i a b M hi h
      obtain rfl : i = n := by omega
      rw [hL]
      exact fin a b M _ h
    | succ k ih =>
      intro i a b M hi h
      rw [hL]
      exact step i a b M _ (by omega) h (fun a' b' M' h' => ih (i + 1) a' b' M' (by omega) h')
  exact ⟨n - i0 + 1, key (n - i0) i0 a b M (by omega) h0⟩
theorem bI_1 {b : Bool} : bI b = nI 1 ↔ b = true := by cases b <;> decide
theorem bI_0 {b : Bool} : bI b = nI 0 ↔ b = false := by cases b <;> decide
theorem bI_nat (b : Bool) : bI b = nI b.toNat := by cases b <;> rfl
theorem tbN (v i : Nat) : v / 2 ^ i % 2 = (v.testBit i).toNat := by
  rw [Nat.testBit_eq_decide_div_mod_eq]
  have h2 := Nat.mod_lt (v / 2 ^ i) (show 0 < 2 by decide)
  by_cases z : v / 2 ^ i % 2 = 1
  · rw [z]; rfl
  · rw [decide_eq_false z]
    show _ = 0
    omega
theorem bitX {v i : Nat} (hv : v < 2 ^ 31) (hi : i < 32) : jushr (nI v) (nI i) &&& nI 1 = bI (v.testBit i) := by rw [bitR hv hi, tbN, bI_nat]
theorem bitM {v i : Nat} (hv : v < 2 ^ 31) (hi : i < 32) : jshr (nI v) (nI i) &&& nI 1 = bI (v.testBit i) := by rw [bitS hv hi, tbN, bI_nat]
theorem bit_w {v i : Nat} {M : wM} {Q : Int32 → wM → Prop} (hv : v < 2 ^ 31) (hi : i < 32) (q : Q (bI (v.testBit i)) M) : w_X11_bit (nI v) (nI i) M Q := by
  unfold w_X11_bit
  rw [bitX hv hi]
  exact q
theorem and1 (x : Int32) : x &&& nI 1 = bI (decide (x &&& nI 1 = nI 1)) := by
  obtain ⟨j, hj, e⟩ := pk_andE x (m := nI 1) 1 (by decide)
  rcases (show j = 0 ∨ j = 1 by omega) with rfl | rfl
  · rw [e]; decide
  · rw [e]; decide
def bld (f : Nat → Bool) : Nat → Nat
  | 0 => 0
  | k + 1 => bld f k ||| (f k).toNat * 2 ^ k
theorem bld_lt (f : Nat → Bool) : ∀ k, bld f k < 2 ^ k
  | 0 => Nat.one_pos
  | k + 1 => by
    show bld f k ||| (f k).toNat * 2 ^ k < 2 ^ (k + 1)
    have h1 : 2 ^ k < 2 ^ (k + 1) := Nat.pow_lt_pow_right (by decide) (by omega)
    refine Nat.or_lt_two_pow (Nat.lt_trans (bld_lt f k) h1) ?_
    cases f k
    · show 0 * 2 ^ k < _; omega
    · show 1 * 2 ^ k < _; omega
theorem tb_mul (b : Bool) (k i : Nat) : (b.toNat * 2 ^ k).testBit i = (b && decide (i = k)) := by
  cases b
  · show (0 * 2 ^ k).testBit i = _
    rw [Nat.zero_mul, Nat.zero_testBit, Bool.false_and]
  · show (1 * 2 ^ k).testBit i = _
    rw [Nat.one_mul, Nat.testBit_two_pow, Bool.true_and]
    by_cases z : k = i
    · rw [decide_eq_true z, decide_eq_true z.symm]
    · rw [decide_eq_false z, decide_eq_false (fun y => z y.symm)]
theorem bld_bit (f : Nat → Bool) (i : Nat) : ∀ k, (bld f k).testBit i = (decide (i < k) && f i)
  | 0 => by
    show (0 : Nat).testBit i = _
    rw [Nat.zero_testBit, decide_eq_false (by omega), Bool.false_and]
  | k + 1 => by
    show (bld f k ||| (f k).toNat * 2 ^ k).testBit i = _
    rw [Nat.testBit_or, bld_bit f i k, tb_mul]
    by_cases z : i = k
    · subst z
      rw [decide_eq_false (show ¬ i < i by omega), decide_eq_true (show i < i + 1 by omega), decide_eq_true (rfl : i = i)]
      cases f i <;> rfl
    · rw [decide_eq_false z, Bool.and_false, Bool.or_false]
      by_cases y : i < k
      · rw [decide_eq_true y, decide_eq_true (show i < k + 1 by omega)]
      · rw [decide_eq_false y, decide_eq_false (show ¬ i < k + 1 by omega)]
theorem bshb {b : Bool} {i : Nat} (hi : i < 31) : jshl (bI b) (nI i) = nI (b.toNat * 2 ^ i) := by
  have h : 2 ^ i < 2 ^ 32 := Nat.pow_lt_pow_right (by decide) (by omega)
  rw [bI_nat]
  refine bshl ?_ (by omega)
  cases b
  · show 0 * 2 ^ i < _; omega
  · show 1 * 2 ^ i < _; omega
theorem bld_or {f : Nat → Bool} {i : Nat} (hi : i < 31) : nI (bld f i) ||| jshl (bI (f i)) (nI i) = nI (bld f (i + 1)) := by
  have h : 2 ^ i < 2 ^ 31 := Nat.pow_lt_pow_right (by decide) hi
  have h1 := bld_lt f i
  have h2 : (f i).toNat * 2 ^ i < 2 ^ 32 := by
    cases f i
    · show 0 * 2 ^ i < _; omega
    · show 1 * 2 ^ i < _; omega
  rw [bshb hi, nI_or (by omega) h2]
  rfl
def allB (f : Nat → Bool) : Nat → Bool
  | 0 => true
  | k + 1 => allB f k && f k
theorem allB_iff (f : Nat → Bool) : ∀ k, allB f k = true ↔ ∀ i, i < k → f i = true
  | 0 => ⟨fun _ i h => by omega, fun _ => rfl⟩
  | k + 1 => by
    show (allB f k && f k) = true ↔ _
    rw [Bool.and_eq_true, allB_iff f k]
    constructor
    · rintro ⟨h1, h2⟩ i hi
      by_cases z : i = k
      · rw [z]; exact h2
      · exact h1 i (by omega)
    · intro h
      exact ⟨fun i hi => h i (by omega), h k (by omega)⟩
def xP (X : wM) (c : Nat) : Nat := (gi X (34 + 3 * c) 0).toNatClampNeg
def xL (X : wM) (c : Nat) : Nat := (gi X (gp X c) 0).toNatClampNeg
def xN (X : wM) (c : Nat) : Nat := (gi X (gp X c) 1).toNatClampNeg
def xO (X : wM) (c : Nat) : Nat := (gi X (gp X c) 5).toNatClampNeg
def xR (X : wM) (c : Nat) : Nat := (gi X (34 + 3 * c) 2).toNatClampNeg
def xW (X : wM) (c : Nat) : Nat := (gi X (34 + 3 * c) 3).toNatClampNeg
def xT (X : wM) (c : Nat) : Nat := (gi X (34 + 3 * c) 4).toNatClampNeg
def xU (X : wM) (c : Nat) : Nat := (gi X (34 + 3 * c) 6).toNatClampNeg
def xB (X : wM) (c : Nat) : Nat := (gi X (35 + 3 * c) 0).toNatClampNeg
def xC (X : wM) (c : Nat) : Nat := (gi X (35 + 3 * c) 2).toNatClampNeg
def CF (X M : wM) (nn c : Nat) : Prop := (xP X c < 6 ∧ gp X c = 65 + xP X c ∧ gi X (34 + 3 * c) 0 = nI (xP X c) ∧ gi M 14 c = nI (xP X c)) ∧
  partR (xL X c) (xN X c) (xO X c) (gi X (gp X c) 2) (gi X (gp X c) 3) (gi X (gp X c) 4) ∧ chipR (xL X c) (xN X c) (xO X c) (xR X c) (xW X c) (xT X c) (xU X c) (xB X c) (xC X c) ∧
  (gi X (gp X c) 0 = nI (xL X c) ∧ gi M 1 (xP X c) = nI (xL X c)) ∧ (gi X (gp X c) 1 = nI (xN X c) ∧ gi M 5 (xP X c) = nI (xN X c)) ∧ (gi X (gp X c) 5 = nI (xO X c) ∧ gi M 6 (xP X c) = nI (xO X c)) ∧ gi M 2 (xP X c) = gi X (gp X c) 2 ∧
  (gi X (34 + 3 * c) 2 = nI (xR X c) ∧ gi M 15 c = nI (xR X c)) ∧ (gi X (34 + 3 * c) 3 = nI (xW X c) ∧ gi M 16 c = nI (xW X c)) ∧ (gi X (34 + 3 * c) 4 = nI (xT X c) ∧ gi M 20 c = nI (xT X c)) ∧ (gi X (34 + 3 * c) 6 = nI (xU X c) ∧ gi M 21 c = nI (xU X c)) ∧ (gi X (35 + 3 * c) 0 = nI (xB X c) ∧ gi M 17 c = nI (xB X c)) ∧ gi X (35 + 3 * c) 1 = gi M 18 c ∧ (gi X (35 + 3 * c) 2 = nI (xC X c) ∧ gi M 19 c = nI (xC X c)) ∧
  ∀ i, i < 10 → gi M 23 (10 * c + i) = gi X (36 + 3 * c) i ∧ netR nn (xN X c) i (gi X (36 + 3 * c) i)
theorem cf_all {X M : wM} {np nn c p L n o : Nat} {idv sa ex : Int32} {ord orow lat opn br cr : Nat} (hnp : np ≤ 6) (h : chipAll X M np nn c p L n o idv sa ex ord orow lat opn br cr) : CF X M nn c := by
  obtain ⟨k1, pr, cr2, k4, k5, k6, k7, k8⟩ := h
  have hL := pr.2.1
  have hn := pr.2.2.1
  have b1 := p10 hn
  have b2 : 2 ^ L ≤ 256 := Nat.pow_le_pow_right (n := 2) (j := 8) (by decide) hL
  obtain ⟨r0, r1, r2, r3, r4, r5, r6, r7, r8⟩ := id cr2
  have c0 := r0.2.2.2
  have eP : xP X c = p := by unfold xP; rw [k5.1, nI_clamp (by omega)]
  have eL : xL X c = L := by unfold xL; rw [k4, k6.1.1, nI_clamp (by omega)]
  have eN : xN X c = n := by unfold xN; rw [k4, k6.2.1.1, nI_clamp (by omega)]
  have eO : xO X c = o := by unfold xO; rw [k4, k6.2.2.1.1, nI_clamp (by omega)]
  have eR : xR X c = ord := by unfold xR; rw [k7.1.1, nI_clamp (by omega)]
  have eW : xW X c = orow := by unfold xW; rw [k7.2.1.1, nI_clamp (by omega)]
  have eT : xT X c = lat := by unfold xT; rw [k7.2.2.1.1, nI_clamp (by omega)]
  have eU : xU X c = opn := by unfold xU; rw [k7.2.2.2.1.1, nI_clamp (by omega)]
  have eB : xB X c = br := by unfold xB; rw [k7.2.2.2.2.1.1, nI_clamp (by omega)]
  have eC : xC X c = cr := by unfold xC; rw [k7.2.2.2.2.2.2.1, nI_clamp (by omega)]
  unfold CF
  rw [eP, eL, eN, eO, eR, eW, eT, eU, eB, eC, k4, k6.2.2.2.1.1, k6.2.2.2.2.1.1, k6.2.2.2.2.2.1]
  exact ⟨⟨by omega, rfl, k5⟩, pr, cr2, k6.1, k6.2.1, k6.2.2.1, k6.2.2.2.1.2, k7.1, k7.2.1, k7.2.2.1, k7.2.2.2.1, k7.2.2.2.2.1, k7.2.2.2.2.2.1, k7.2.2.2.2.2.2, fun i hi => ⟨(k8 i hi).1.symm, (k8 i hi).2⟩⟩
theorem Inv_cf {X M : wM} (h : Inv X M) : ∃ nc nn : Nat, nc ≤ 6 ∧ nn ≤ 8 ∧ gi X 26 3 = nI nc ∧ gi M 0 22 = nI nc ∧ gi X 12 0 = nI nn ∧ gi M 0 41 = nI nn ∧ ∀ c, c < nc → CF X M nn c := by
  obtain ⟨nc, np, nn, h1, h2, h3, e1, e2, e3, e4, e5, e6, hc⟩ := Inv_nc h
  refine ⟨nc, nn, h1, h3, e1, e2, e5, e6, fun c hcc => ?_⟩
  obtain ⟨p, L, n, o, idv, sa, ex, ord, orow, lat, opn, br, cr, k⟩ := hc c hcc
  exact cf_all h2 k
/-- the same, at known counts -/
theorem Inv_cc {X M : wM} {nc nn : Nat} (h : Inv X M) (h1 : nc ≤ 6) (h2 : nn ≤ 8) (e : gi X 26 3 = nI nc) (e2 : gi X 12 0 = nI nn) : gi M 0 22 = nI nc ∧ gi M 0 41 = nI nn ∧ ∀ c, c < nc → CF X M nn c := by
  obtain ⟨nc', nn', g1, g2, g3, g4, g5, g6, g7⟩ := Inv_cf h
  obtain rfl : nc' = nc := inj31 (g3.symm.trans e) (by omega) (by omega)
  obtain rfl : nn' = nn := inj31 (g5.symm.trans e2) (by omega) (by omega)
  exact ⟨g4, g6, g7⟩
