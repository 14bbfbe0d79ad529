/-! feed -/
def yv (t : Nat) : Int32 := nI (64 - 8 * t) + (-8)
theorem yv_ok : ∀ t, t < 8 → yv t = nI (56 - 8 * t) ∧ yv t + (-8) = yv (t + 1) ∧ nI 56 - nI 8 * nI t = nI (56 - 8 * t) ∧ ¬ yv t < nI 0 := by decide
theorem yv_8 : yv 8 < nI 0 := by decide
theorem sh64 : ∀ t, t < 8 → (((nI (56 - 8 * t)).toInt64 &&& 63).toBitVec.smod 64).toNat = 56 - 8 * t := by decide
theorem ush64 : ∀ t, t < 8 → (((nI (56 - 8 * t)).toInt64.toUInt64 &&& Int64.toUInt64 63).toBitVec % 64).toNat = 56 - 8 * t := by decide
def by8 (x : Int64) (t : Nat) : Nat := x.toBitVec.toNat / 2 ^ (56 - 8 * t) % 256
theorem by8_bit (x : Int64) (t i : Nat) : (by8 x t).testBit i = (decide (i < 8) && x.toBitVec.getLsbD (56 - 8 * t + i)) := by
  unfold by8
  rw [show (256 : Nat) = 2 ^ 8 by decide, Nat.testBit_mod_two_pow, Nat.testBit_div_two_pow]
  rw [Nat.add_comm]
  rfl
theorem fd_M (x : Int64) (t : Nat) (ht : t < 8) : ((jlshr x (yv t)) &&& (lN 255)).toInt32 = nI (by8 x t) := by
  rw [(yv_ok t ht).1]
  apply Int32.toBitVec_inj.mp
  apply BitVec.eq_of_getLsbD_eq
  intro i hi
  rw [nI_bv, BitVec.getLsbD_ofNat, by8_bit]
  unfold jlshr
  rw [Int64.toBitVec_toInt32, BitVec.getLsbD_signExtend, Int64.toBitVec_and, Int64.toBitVec_shiftRight, BitVec.sshiftRight', sh64 t ht]
  have e : (lN 255).toBitVec.getLsbD i = decide (i < 8) := by
    show (BitVec.ofNat 64 255).getLsbD i = _
    rw [BitVec.getLsbD_ofNat, show (255 : Nat) = 2 ^ 8 - 1 by decide, Nat.testBit_two_pow_sub_one]
    simp
    omega
  rw [BitVec.getLsbD_and, e, BitVec.getLsbD_sshiftRight]
  by_cases h8 : i < 8
  · have h1 : i < 64 := by omega
    have h2 : 56 - 8 * t + i < 64 := by omega
    simp [hi, h1, h2, h8]
  · simp [h8]
    omega
theorem fd_X (x : Int64) (t : Nat) (ht : t < 8) : (jlushr x ((nI 56) - ((nI 8) * nI t))).toInt32.toInt8.toInt32.toInt8.toInt32 = (nI (by8 x t)).toInt8.toInt32 := by
  rw [(yv_ok t ht).2.2.1]
  have e : (jlushr x (nI (56 - 8 * t))).toInt32.toInt8 = (nI (by8 x t)).toInt8 := by
    apply Int8.toBitVec_inj.mp
    apply BitVec.eq_of_getLsbD_eq
    intro i hi
    unfold jlushr
    rw [Int32.toBitVec_toInt8, Int32.toBitVec_toInt8, Int64.toBitVec_toInt32, BitVec.getLsbD_signExtend, BitVec.getLsbD_signExtend, BitVec.getLsbD_signExtend, nI_bv, BitVec.getLsbD_ofNat, by8_bit]
    have h1 : i < 64 := by omega
    have h2 : i < 32 := by omega
    have h3 : 56 - 8 * t + i < 64 := by omega
    have e2 : (x.toUInt64 >>> ((nI (56 - 8 * t)).toInt64.toUInt64 &&& Int64.toUInt64 63)).toInt64.toBitVec = x.toBitVec >>> (56 - 8 * t) := by
      show (x.toUInt64 >>> ((nI (56 - 8 * t)).toInt64.toUInt64 &&& Int64.toUInt64 63)).toBitVec = _
      rw [UInt64.toBitVec_shiftRight, BitVec.ushiftRight_eq', ush64 t ht]
      rfl
    rw [e2, BitVec.getLsbD_ushiftRight]
    simp [hi, h1, h2]
  rw [e]
  simp
theorem feedX {n : Nat} {x : Int64} {X : wM} {Q : Int32 → wM → Prop} (hn : n + 8 ≤ 240) (e : gi X 1 1 = nI n) (q : ∀ A : wM, gi A 1 1 = nI (n + 8) → (∀ t, t < 8 → gi A 2 (n + t) = (nI (by8 x t)).toInt8.toInt32) → (∀ a j, a ≠ 1 ∨ j ≠ 1 → a ≠ 2 ∨ j < n → gi A a j = gi X a j) → (∀ c, gp A c = gp X c) → Q (nI 1) A) : w_X9_append x X Q := by
  have key : ∀ k i (M : wM), i + k = 8 → gi M 1 1 = nI n → (∀ A : wM, gi A 1 1 = nI (n + 8) → (∀ t, i ≤ t → t < 8 → gi A 2 (n + t) = (nI (by8 x t)).toInt8.toInt32) → (∀ a j, a ≠ 1 ∨ j ≠ 1 → a ≠ 2 ∨ j < n + i → gi A a j = gi M a j) → (∀ c, gp A c = gp M c) → Q (nI 1) A) → wL_X9_append_17 x Q (k + 1) (nI i) M := by
    intro k
    induction k with
    | zero =>
      intro i M hi e q
      show wb_X9_append_17 x _ (nI i) M Q
      unfold wb_X9_append_17
      rw [e, nI_add]
      exact bt (nI_le (by omega) (by omega)) (q _ (gi_eq ..) (fun t h1 h2 => by omega) (fun a j h1 _ => gi_ne h1) (fun _ => rfl))
    | succ k ih =>
      intro i M hi e q
      show wb_X9_append_17 x (wL_X9_append_17 x Q (k + 1)) (nI i) M Q
      unfold wb_X9_append_17
      rw [e, nI_add, nI_add, nI_add, nI_clamp (by omega), fd_X x i (by omega)]
      refine bf (nI_ge (by omega) (by omega)) ⟨vp_in_nI (by omega) (by omega), ?_⟩
      refine ih (i + 1) _ (by omega) (by rw [gi_ne (Or.inl (by decide))]; exact e) (fun A h1 h2 h3 h4 => q A h1 (fun t g1 g2 => ?_) (fun a j g1 g2 => ?_) h4)
      · by_cases ht : t = i
        · rw [h3 2 _ (Or.inl (by decide)) (Or.inr (by omega)), ht, gi_eq]
        · exact h2 t (by omega) g2
      · rw [h3 a j g1 (g2.imp id (fun g => by omega)), gi_ne (g2.imp id (fun g => by omega))]
  unfold w_X9_append
  rw [e, nI_add]
  exact bt (nI_le (by omega) (by omega)) ⟨9, key 8 0 X (by omega) e (fun A h1 h2 h3 h4 => q A h1 (fun t ht => h2 t (Nat.zero_le _) ht) (fun a j g1 g2 => h3 a j g1 (g2.imp id (fun g => by omega))) h4)⟩
theorem feedM {n : Nat} {x : Int64} {X : wM} {Q : Int32 → wM → Prop} (hn : n + 8 ≤ 240) (e : gi X 0 15 = nI n) (q : ∀ A : wM, gi A 0 15 = nI (n + 8) → (∀ t, t < 8 → gi A 13 (n + t) = nI (by8 x t)) → (∀ a j, a ≠ 0 ∨ j ≠ 15 → a ≠ 13 ∨ j < n → gi A a j = gi X a j) → Q (nI (n + 8)) A) : w_X12_feed x X Q := by
  have key : ∀ k i (M : wM), i + k = 8 → gi M 0 15 = nI (n + i) → (∀ A : wM, gi A 0 15 = nI (n + 8) → (∀ t, i ≤ t → t < 8 → gi A 13 (n + t) = nI (by8 x t)) → (∀ a j, a ≠ 0 ∨ j ≠ 15 → a ≠ 13 ∨ j < n + i → gi A a j = gi M a j) → Q (nI (n + 8)) A) → wL_X12_feed_19 x Q (k + 1) (yv i) M := by
    intro k
    induction k with
    | zero =>
      intro i M hi e q
      obtain rfl : i = 8 := by omega
      show wb_X12_feed_19 x _ (yv 8) M Q
      unfold wb_X12_feed_19
      rw [e]
      exact bt yv_8 (q M e (fun t h1 h2 => by omega) (fun _ _ _ _ => rfl))
    | succ k ih =>
      intro i M hi e q
      show wb_X12_feed_19 x (wL_X12_feed_19 x Q (k + 1)) (yv i) M Q
      unfold wb_X12_feed_19
      rw [e, nI_add, nI_clamp (by omega), fd_M x i (by omega), (yv_ok i (by omega)).2.1]
      refine bf (yv_ok i (by omega)).2.2.2 ⟨vp_in_nI (by omega) (by omega), ?_⟩
      refine ih (i + 1) _ (by omega) (gi_eq ..) (fun A h1 h2 h3 => q A h1 (fun t g1 g2 => ?_) (fun a j g1 g2 => ?_))
      · by_cases ht : t = i
        · rw [h3 13 _ (Or.inl (by decide)) (Or.inr (by omega)), gi_ne (Or.inl (by decide)), ht, gi_eq]
        · exact h2 t (by omega) g2
      · rw [h3 a j g1 (g2.imp id (fun g => by omega)), gi_ne g1, gi_ne (g2.imp id (fun g => by omega))]
  unfold w_X12_feed
  rw [e, nI_add]
  exact bt (nI_le (by omega) (by omega)) ⟨9, key 8 0 X (by omega) e (fun A h1 h2 h3 => q A h1 (fun t ht => h2 t (Nat.zero_le _) ht) (fun a j g1 g2 => h3 a j g1 (g2.imp id (fun g => by omega))))⟩
theorem by8_lt (x : Int64) (t : Nat) : by8 x t < 256 := Nat.mod_lt _ (by decide)
theorem law_feed (x1 : Int64) (Mx Mm : wM) (h : Inv Mx Mm) : w_X11_feed x1 Mx (fun r A => w_X12_feed x1 Mm (fun r2 B => r = r2 ∧ Inv A B)) := by
  obtain ⟨n, hn, e1, e2, ht⟩ := h.1
  unfold w_X11_feed
  by_cases c : n + 8 ≤ 240
  · refine feedX c e1 (fun A a1 a2 a3 a4 => bf ne10 ?_)
    rw [a1]
    refine feedM c e2 (fun B b1 b2 b3 => ⟨rfl, ?_⟩)
    refine Inv_fr (T := [1101, 2]) (S := [1015, 13]) h ⟨fun a j q => a3 a j ?_ ?_, a4⟩ (fun a j q => b3 a j ?_ ?_) (hT := Or.inr ⟨n + 8, c, a1, b1, fun j hj => ?_⟩)
    · by_cases z : a = 1 ∧ j = 1
      · exact absurd (by rw [z.1, z.2]; decide) q
      · omega
    · by_cases z : a = 2
      · exact absurd (by rw [z]; simp [cX]) q
      · exact Or.inl z
    · by_cases z : a = 0 ∧ j = 15
      · exact absurd (by rw [z.1, z.2]; decide) q
      · omega
    · by_cases z : a = 13
      · exact absurd (by rw [z]; simp [cM]) q
      · exact Or.inl z
    · by_cases z : j < n
      · rw [a3 2 j (Or.inl (by decide)) (Or.inr z), b3 13 j (Or.inl (by decide)) (Or.inr z)]
        exact ht j z
      · obtain ⟨t, rfl⟩ : ∃ t, j = n + t := ⟨j - n, by omega⟩
        exact ⟨by8 x1 t, by8_lt x1 t, b2 t (by omega), a2 t (by omega)⟩
  · unfold w_X9_append
    rw [e1, nI_add]
    refine bf (nI_ge (by omega) (by omega)) (bt rfl ?_)
    unfold w_X12_feed
    rw [e2, nI_add]
    exact bf (nI_ge (by omega) (by omega)) ⟨rfl, h⟩
