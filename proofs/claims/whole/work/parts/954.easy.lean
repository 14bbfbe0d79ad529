/-! lay, part, chip -/
theorem low8 (x : Int32) : x.toInt8.toInt32 &&& nI 1 = x &&& nI 1 := by
  apply Int32.toBitVec_inj.mp
  rw [Int32.toBitVec_and, Int32.toBitVec_and]
  apply BitVec.eq_of_getLsbD_eq
  intro i hi
  rw [BitVec.getLsbD_and, BitVec.getLsbD_and]
  by_cases h0 : i = 0
  · subst h0
    congr 1
    simp [Int8.toBitVec_toInt32, Int32.toBitVec_toInt8, BitVec.getElem_signExtend]
  · have : (nI 1).toBitVec.getLsbD i = false := by
      rw [nI_bv, BitVec.getLsbD_ofNat]
      rcases i with _ | i
      · exact absurd rfl h0
      · simp [Nat.testBit_succ]
    rw [this, Bool.and_false, Bool.and_false]
theorem low16 (x : Int32) : x.toInt16.toInt32 &&& nI 1 = x &&& nI 1 := by
  apply Int32.toBitVec_inj.mp
  rw [Int32.toBitVec_and, Int32.toBitVec_and]
  apply BitVec.eq_of_getLsbD_eq
  intro i hi
  rw [BitVec.getLsbD_and, BitVec.getLsbD_and]
  by_cases h0 : i = 0
  · subst h0
    congr 1
    simp [Int16.toBitVec_toInt32, Int32.toBitVec_toInt16, BitVec.getElem_signExtend]
  · have : (nI 1).toBitVec.getLsbD i = false := by
      rw [nI_bv, BitVec.getLsbD_ofNat]
      rcases i with _ | i
      · exact absurd rfl h0
      · simp [Nat.testBit_succ]
    rw [this, Bool.and_false, Bool.and_false]
section LAY
variable {k s : Nat} {x2 x3 : Int32} {M : wM} {Q : Int32 → wM → Prop}
theorem layM_null (k4 : k < 4) (e : gi M 40 k = -4) (q : Q (-11) M) : w_X12_lay (nI k) x2 x3 M Q := by
  unfold w_X12_lay
  rw [nI_clamp (by omega)]
  exact isSheetM_t (by rw [nI_toInt (by omega)]; omega) (by decide) (bf ne10 ⟨vp_in_nI k4 (by decide), bt e q⟩)
theorem layM_idx (k4 : k < 4) (hs : s ≤ 100) (e : ¬ gi M 40 k = -4) (e2 : gi M 41 k = nI s) (c2 : ¬ (0 ≤ x2.toInt ∧ x2.toInt ≤ (s : Int) - 1)) (q : Q (-12) M) : w_X12_lay (nI k) x2 x3 M Q := by
  unfold w_X12_lay
  rw [nI_clamp (by omega)]
  refine isSheetM_t (by rw [nI_toInt (by omega)]; omega) (by decide) (bf ne10 ⟨vp_in_nI k4 (by decide), bf e ⟨vp_in_nI k4 (by decide), ?_⟩⟩)
  rw [e2]
  exact in_f (by decide) (hi_S (by omega)) c2 (bt rfl q)
theorem layM_ok {i : Nat} (k4 : k < 4) (hs : s ≤ 100) (e : ¬ gi M 40 k = -4) (e2 : gi M 41 k = nI s) (hi : i < s) (q : ∀ v : Int32, v &&& nI 1 = x3 &&& nI 1 → Q (nI 1) (si M 42 (100 * k + i) v)) : w_X12_lay (nI k) (nI i) x3 M Q := by
  have v4 : vp_in (nI k) 4 := vp_in_nI k4 (by decide)
  have ea : nI 100 * nI k + nI i = nI (100 * k + i) := by rw [nI_mul, nI_add]
  have v4h : vp_in (nI (100 * k + i)) 400 := vp_in_nI (by omega) (by decide)
  unfold w_X12_lay
  rw [nI_clamp (by omega), ea, nI_clamp (by omega)]
  refine isSheetM_t (by rw [nI_toInt (by omega)]; omega) (by decide) (bf ne10 ⟨v4, bf e ⟨v4, ?_⟩⟩)
  rw [e2]
  exact in_t (by decide) (hi_S (by omega)) (by rw [nI_toInt (by omega)]; omega) (bf ne10 ⟨v4, bc (fun z => ⟨v4h, q _ (low8 x3)⟩) (fun z => ⟨v4, bc (fun w => ⟨v4h, q _ (low16 x3)⟩) (fun w => ⟨v4h, q _ rfl⟩)⟩)⟩)
end LAY
theorem law_lay (x1 x2 x3 : Int32) (Mx Mm : wM) (h : Inv Mx Mm) : w_X11_lay x1 x2 x3 Mx (fun r A => w_X12_lay x1 x2 x3 Mm (fun r2 B => r = r2 ∧ Inv A B)) := by
  have hH := h.2.2.2.2.2.2.2.2.1
  unfold w_X11_lay
  by_cases c1 : 0 ≤ x1.toInt ∧ x1.toInt ≤ 3
  · obtain ⟨k, hk, rfl, ek⟩ := nI_ex (x := x1) c1.1
    have k4 : k < 4 := by omega
    obtain ⟨g1, g2, g3, ⟨s, hs, g4⟩, g5⟩ := hH k k4
    have v4 : vp_in (nI k) 4 := vp_in_nI k4 (by decide)
    refine isSheet_w (fun _ => bf ne10 ⟨v4, ?_⟩) (fun z => absurd c1 z)
    rw [nI_clamp hk]
    refine ⟨k4, bc (fun q => bf ne10 (layM_null k4 (by rw [← g1]; exact q) ⟨by decide, h⟩)) (fun q => bt rfl ?_)⟩
    have q2 : ¬ gi Mm 40 k = -4 := by rw [← g1]; exact q
    have e2 : gi Mm 41 k = nI s := by rw [← g2]; exact g4
    have lo : (nI s - nI 1).toInt = (s : Int) - 1 := pk_sub_toInt (by omega) (by decide)
    rw [g4]
    by_cases c2 : 0 ≤ x2.toInt ∧ x2.toInt ≤ (s : Int) - 1
    · refine bf (by rw [lt_n (by decide)]; omega) (bt (by rw [Int32.le_iff_toInt_le, lo]; omega) (bt rfl ?_))
      obtain ⟨i, hi, rfl, ei⟩ := nI_ex (x := x2) c2.1
      refine ⟨vp_in_nI (by omega) (by decide), layM_ok k4 hs q2 e2 (by omega) (fun v hv => ⟨rfl, ?_⟩)⟩
      rw [nI_clamp hi]
      refine Inv_fr (T := [71, 72, 73, 74, 75, 76, 77, 78]) (S := [40, 41, 42]) h (sX_si (by rcases (show k = 0 ∨ k = 1 ∨ k = 2 ∨ k = 3 by omega) with rfl | rfl | rfl | rfl <;> simp [cX])) (sM_si (by simp [cM])) (hH := Or.inr (fun k' hk' => ?_))
      by_cases hkk : k' = k
      · subst hkk
        refine ⟨?_, ?_, ?_, ⟨s, hs, ?_⟩, fun z j hj => ?_⟩
        · rw [gi_ne (Or.inl (by omega)), gi_ne (Or.inl (by decide))]; exact g1
        · rw [gi_ne (Or.inl (by omega)), gi_ne (Or.inl (by decide))]; exact g2
        · rw [gi_ne (Or.inl (by omega))]; exact g3
        · rw [gi_ne (Or.inl (by omega))]; exact g4
        · by_cases hj2 : j = i
          · subst hj2
            rw [gi_eq, gi_eq, hv]
          · rw [gi_ne (Or.inr hj2), gi_ne (Or.inr (by omega))]
            rw [gi_ne (Or.inl (by omega))] at z
            exact g5 z j hj
      · exact sheetOk_fr (hH k' hk') (fun j => gi_ne (Or.inl (by omega))) (fun j => gi_ne (Or.inl (by omega))) (gi_ne (Or.inl (by decide))) (gi_ne (Or.inl (by decide))) (fun j hj => gi_ne (Or.inr (by omega)))
    · refine bc (fun z => bf (by decide) (layM_idx k4 hs q2 e2 c2 ⟨by decide, h⟩)) (fun z => bf (fun w => ?_) (bf (by decide) (layM_idx k4 hs q2 e2 c2 ⟨by decide, h⟩)))
      rw [lt_n (by decide)] at z
      rw [Int32.le_iff_toInt_le, lo] at w
      omega
  · exact isSheet_w (fun z => absurd z c1) (fun _ => bt rfl (isSheetM_f (fun z => c1 z.1) (bt rfl ⟨rfl, h⟩)))
/-- the ones of the lowest sixteen bits -/
def ones (v : Nat) : Nat → Nat
  | 0 => 0
  | k + 1 => ones v k + v / 2 ^ k % 2
theorem ones_le (v k : Nat) : ones v k ≤ k := by
  induction k with
  | zero => exact Nat.le_refl _
  | succ k ih =>
    show ones v k + v / 2 ^ k % 2 ≤ k + 1
    have := Nat.mod_lt (v / 2 ^ k) (show 0 < 2 by decide)
    omega
theorem bitsM {v : Nat} {M : wM} {Q : Int32 → wM → Prop} (hv : v < 2 ^ 31) (q : Q (nI (ones v 16)) M) : w_X12_bits (nI v) M Q := by
  have key : ∀ k i, i + k = 16 → wL_X12_bits_4 (nI v) Q (k + 1) (nI (ones v i)) (nI i) M := by
    intro k
    induction k with
    | zero =>
      intro i hi
      obtain rfl : i = 16 := by omega
      show wb_X12_bits_4 (nI v) _ (nI (ones v 16)) (nI 16) M Q
      exact bt (nI_le (by omega) (by decide)) q
    | succ k ih =>
      intro i hi
      show wb_X12_bits_4 (nI v) (wL_X12_bits_4 (nI v) Q (k + 1)) (nI (ones v i)) (nI i) M Q
      refine bf (nI_ge (by omega) (by decide)) ?_
      rw [bitS hv (by omega), nI_add, nI_add]
      exact ih (i + 1) (by omega)
  exact ⟨17, key 16 0 (by omega)⟩
def bcN (x0 : Int32) : Int32 :=
  let a := x0 - ((jushr x0 (nI 1)) &&& (nI 1431655765))
  let b := (a &&& (nI 858993459)) + ((jushr a (nI 2)) &&& (nI 858993459))
  let c := (b + (jushr b (nI 4))) &&& (nI 252645135)
  let d := c + (jushr c (nI 8))
  (d + (jushr d (nI 16))) &&& (nI 63)
set_option maxRecDepth 100000 in
theorem bcN_ok : ∀ v, v < 1024 → bcN (nI v) = nI (ones v 16) := by decide +kernel
theorem bitC {v : Nat} {M : wM} {Q : Int32 → wM → Prop} (hv : v < 1024) (q : Q (nI (ones v 16)) M) : w_J6_bitCount_0f7a4 (nI v) M Q := by
  show Q (bcN (nI v)) M
  rw [bcN_ok v hv]
  exact q
