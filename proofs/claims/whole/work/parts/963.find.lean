/-! the shortest ways, as the reference finds them -/
def bI (m : Bool) : Int32 := if m then nI 1 else nI 0
theorem goesM {s : Nat} {M : wM} {Q : Int32 → wM → Prop} (hs : s < 16) (m : Bool) (q : Q (nI (nx s m)) M) : w_X12_goes (nI s) (bI m) M Q := by
  unfold w_X12_goes
  rcases (show s = 0 ∨ s = 1 ∨ s = 2 ∨ s = 3 ∨ s = 4 ∨ s = 5 ∨ s = 6 ∨ s = 7 ∨ s = 8 ∨ s = 9 ∨ s = 10 ∨ s = 11 ∨ s = 12 ∨ s = 13 ∨ s = 14 ∨ s = 15 by omega) with rfl | rfl | rfl | rfl | rfl | rfl | rfl | rfl | rfl | rfl | rfl | rfl | rfl | rfl | rfl | rfl <;> cases m <;> (repeat (first | refine bf (by decide) ?_ | refine bt (by decide) ?_)) <;> exact q
theorem nx_lt : ∀ s, s < 16 → ∀ m, nx s m < 16 := by decide
theorem gW_lt {a v : Nat} (ha : a < 16) : ∀ k, gW a v k < 16
  | 0 => ha
  | k + 1 => nx_lt _ (gW_lt ha k) _
def o36 (M M' : wM) : Prop := ∀ a j, a ≠ 0 ∨ (j ≠ 36 ∧ j ≠ 37) → gi M' a j = gi M a j
theorem o36_refl {A : wM} : o36 A A := fun _ _ _ => rfl
theorem o36_trans {A B C : wM} (h : o36 A B) (k : o36 B C) : o36 A C := fun a j q => (k a j q).trans (h a j q)
theorem o36_36 {A : wM} {x : Int32} : o36 A (si A 0 36 x) := fun a j q => gi_ne (q.imp id (fun z => z.1))
theorem o36_37 {A : wM} {x : Int32} : o36 A (si A 0 37 x) := fun a j q => gi_ne (q.imp id (fun z => z.2))
theorem bit_t {v i : Nat} (hv : v < 2 ^ 31) (hi : i < 32) : (jshr (nI v) (nI i) &&& nI 1 = nI 1 ∧ v.testBit i = true) ∨ (¬ jshr (nI v) (nI i) &&& nI 1 = nI 1 ∧ v.testBit i = false) := by
  rw [bitS hv hi]
  have h : v.testBit i = decide (v / 2 ^ i % 2 = 1) := by rw [Nat.testBit_eq_decide_div_mod_eq]
  have h2 := Nat.mod_lt (v / 2 ^ i) (show 0 < 2 by decide)
  by_cases z : v / 2 ^ i % 2 = 1
  · exact Or.inl ⟨by rw [z], by rw [h, decide_eq_true z]⟩
  · exact Or.inr ⟨fun y => z (inj31 y (by omega) (by decide)), by rw [h, decide_eq_false z]⟩
theorem fp75 {a b L v : Nat} {K21 K40 : Int32 → wM → Prop} {M : wM} {Q : wM → Prop} (ha : a < 16) (hb : b < 16) (hL : L ≤ 8) (hv : v < 2 ^ 31) (e : gi M 0 36 = nI L) (e2 : gi M 0 37 = nI v) (q : (gW a v L = b → K40 (nI 1) M) ∧ (¬ gW a v L = b → K40 (nI 0) M)) : ∀ k i, i + k = L → wL_X12_findPath_75 (nI a) (nI b) K21 K40 Q (k + 1) (nI (gW a v i)) (nI i) M := by
  intro k
  induction k with
  | zero =>
    intro i hi
    obtain rfl : i = L := by omega
    have := gW_lt (v := v) ha i
    show wb_X12_findPath_75 _ _ _ _ _ _ _ M Q
    unfold wb_X12_findPath_75
    rw [e, nI_eq (by omega) (by omega)]
    exact bt (nI_le (by omega) (by omega)) q
  | succ k ih =>
    intro i hi
    have ih1 := ih (i + 1) (by omega)
    have hg := gW_lt (v := v) ha i
    show wb_X12_findPath_75 _ _ _ _ (wL_X12_findPath_75 (nI a) (nI b) K21 K40 Q (k + 1)) _ _ M Q
    unfold wb_X12_findPath_75
    rw [e, e2, nI_add i 1]
    refine bf (nI_ge (by omega) (by omega)) ?_
    rcases bit_t (i := i) hv (by omega) with ⟨z1, z2⟩ | ⟨z1, z2⟩
    · refine bt z1 (goesM hg true ?_)
      rw [show gW a v (i + 1) = nx (gW a v i) (v.testBit i) from rfl, z2] at ih1
      exact ih1
    · refine bf z1 (goesM hg false ?_)
      rw [show gW a v (i + 1) = nx (gW a v i) (v.testBit i) from rfl, z2] at ih1
      exact ih1
def pv (v : Nat) : Int32 := nI v + (-1)
theorem pv_add (v : Nat) : pv v + nI 1 = nI v := by
  unfold pv
  rw [Int32.add_assoc, show (-1 : Int32) + nI 1 = 0 by decide, Int32.add_zero]
theorem pv_s (v : Nat) : pv (v + 1) = nI v := pk_m1 v
theorem fp40n {a b L : Nat} {K21 : Int32 → wM → Prop} {Q : wM → Prop} (ha : a < 16) (hb : b < 16) (hL : L ≤ 8) (no : ∀ v, v < 2 ^ L → gW a v L ≠ b) : ∀ k v (M : wM), v + k = 2 ^ L → gi M 0 36 = nI L → gi M 0 37 = pv v → (∀ M' : wM, o36 M M' → gi M' 0 36 = nI L → K21 (nI 0) M') → wL_X12_findPath_40 (nI a) (nI b) K21 Q (k + 1) (nI 0) M := by
  have h8 : 2 ^ L ≤ 256 := Nat.pow_le_pow_right (n := 2) (j := 8) (by decide) hL
  intro k
  induction k with
  | zero =>
    intro v M hv e e2 q
    show wb_X12_findPath_40 _ _ K21 _ _ M Q
    unfold wb_X12_findPath_40
    rw [e, e2, pv_add, bshl1 (by omega)]
    exact bt rfl (bt (nI_le (by omega) (by omega)) (q M o36_refl e))
  | succ k ih =>
    intro v M hv e e2 q
    show wb_X12_findPath_40 _ _ K21 (wL_X12_findPath_40 (nI a) (nI b) K21 Q (k + 1)) _ M Q
    unfold wb_X12_findPath_40
    rw [e, e2, pv_add, bshl1 (by omega)]
    refine bt rfl (bf (nI_ge (by omega) (by omega)) ⟨L + 1, fp75 ha hb hL (by omega) (by rw [gi_ne (Or.inr (by decide))]; exact e) (gi_eq ..) (bf (no v (by omega)) ?_) L 0 (by omega)⟩)
    exact ih (v + 1) _ (by omega) (by rw [gi_ne (Or.inr (by decide))]; exact e) (by rw [gi_eq, pv_s]) (fun M' o w => q M' (o36_trans o36_37 o) w)
theorem fp40y {a b L v0 : Nat} {K21 : Int32 → wM → Prop} {Q : wM → Prop} (ha : a < 16) (hb : b < 16) (hL : L ≤ 8) (hv0 : v0 < 2 ^ L) (yes : gW a v0 L = b) (no : ∀ v, v < v0 → gW a v L ≠ b) : ∀ k v (M : wM), v + k = v0 → gi M 0 36 = nI L → gi M 0 37 = pv v → (∀ M' : wM, o36 M M' → gi M' 0 36 = nI L → gi M' 0 37 = nI v0 → K21 (nI 1) M') → wL_X12_findPath_40 (nI a) (nI b) K21 Q (k + 2) (nI 0) M := by
  have h8 : 2 ^ L ≤ 256 := Nat.pow_le_pow_right (n := 2) (j := 8) (by decide) hL
  intro k
  induction k with
  | zero =>
    intro v M hv e e2 q
    obtain rfl : v = v0 := by omega
    show wb_X12_findPath_40 _ _ K21 (wL_X12_findPath_40 (nI a) (nI b) K21 Q 1) _ M Q
    unfold wb_X12_findPath_40
    rw [e, e2, pv_add, bshl1 (by omega)]
    refine bt rfl (bf (nI_ge (by omega) (by omega)) ⟨L + 1, fp75 ha hb hL (by omega) (by rw [gi_ne (Or.inr (by decide))]; exact e) (gi_eq ..) (bt yes ?_) L 0 (by omega)⟩)
    show wb_X12_findPath_40 _ _ K21 _ _ _ Q
    exact bf ne10 (q _ o36_37 (by rw [gi_ne (Or.inr (by decide))]; exact e) (gi_eq ..))
  | succ k ih =>
    intro v M hv e e2 q
    show wb_X12_findPath_40 _ _ K21 (wL_X12_findPath_40 (nI a) (nI b) K21 Q (k + 2)) _ M Q
    unfold wb_X12_findPath_40
    rw [e, e2, pv_add, bshl1 (by omega)]
    refine bt rfl (bf (nI_ge (by omega) (by omega)) ⟨L + 1, fp75 ha hb hL (by omega) (by rw [gi_ne (Or.inr (by decide))]; exact e) (gi_eq ..) (bf (no v (by omega)) ?_) L 0 (by omega)⟩)
    exact ih (v + 1) _ (by omega) (by rw [gi_ne (Or.inr (by decide))]; exact e) (by rw [gi_eq, pv_s]) (fun M' o w1 w2 => q M' (o36_trans o36_37 o) w1 w2)
theorem findM {a b : Nat} {M : wM} {Q : wM → Prop} (ha : a < 16) (hb : b < 16) (q : ∀ M' : wM, o36 M M' → gi M' 0 36 = nI (pthL a b) → gi M' 0 37 = nI (pthB a b) → Q M') : w_X12_findPath (nI a) (nI b) M Q := by
  obtain ⟨-, -, p3, p4⟩ := pth_ok b hb a ha
  obtain ⟨w1, w2, w3⟩ := pth_way b hb a ha
  have k21 : ∀ t L (M1 : wM), L + 1 + t = pthL a b → gi M1 0 36 = nI L → o36 M M1 → wL_X12_findPath_21 (nI a) (nI b) Q (t + 2) (nI 0) M1 := by
    intro t
    induction t with
    | zero =>
      intro L M1 hL e o
      show wb_X12_findPath_21 _ _ (wL_X12_findPath_21 (nI a) (nI b) Q 1) _ M1 Q
      unfold wb_X12_findPath_21
      rw [e, nI_add L 1]
      refine bt rfl ⟨pthB a b + 2, fp40y (L := L + 1) (v0 := pthB a b) ha hb (by omega) (by rw [hL]; exact p4) (by rw [hL]; exact w1) (by rw [hL]; exact w3) (pthB a b) 0 _ (by omega) (by rw [gi_ne (Or.inr (by decide)), gi_eq]) (by rw [gi_eq]; decide) (fun M' o' e1 e2 => ?_)⟩
      show wb_X12_findPath_21 _ _ _ _ M' Q
      exact bf ne10 (q M' (o36_trans o (o36_trans o36_36 (o36_trans o36_37 o'))) (by rw [e1]; exact congrArg nI hL) e2)
    | succ t ih =>
      intro L M1 hL e o
      show wb_X12_findPath_21 _ _ (wL_X12_findPath_21 (nI a) (nI b) Q (t + 2)) _ M1 Q
      unfold wb_X12_findPath_21
      rw [e, nI_add L 1]
      refine bt rfl ⟨2 ^ (L + 1) + 1, fp40n (L := L + 1) ha hb (by omega) (w2 (L + 1) (by omega)) (2 ^ (L + 1)) 0 _ (by omega) (by rw [gi_ne (Or.inr (by decide)), gi_eq]) (by rw [gi_eq]; decide) (fun M' o' e1 => ih (L + 1) M' (by omega) e1 (o36_trans o (o36_trans o36_36 (o36_trans o36_37 o'))))⟩
  unfold w_X12_findPath wj_X12_findPath_20
  rw [nI_eq (by omega) (by omega)]
  refine bc (fun z => ⟨1, ?_⟩) (fun z => ?_)
  · have hz : pthL a b = 0 := by
      by_cases h0 : pthL a b = 0
      · exact h0
      · exact absurd z (w2 0 (by omega) 0 (by decide))
    have hz2 : pthB a b = 0 := by rw [hz] at p4; omega
    show wb_X12_findPath_21 _ _ _ _ _ Q
    exact bf ne10 (q _ (o36_trans o36_36 o36_37) (by rw [gi_ne (Or.inr (by decide)), gi_eq, hz]) (by rw [gi_eq, hz2]))
  · have hz : 1 ≤ pthL a b := by
      by_cases h0 : pthL a b = 0
      · rw [h0] at w1; exact absurd w1 z
      · omega
    exact ⟨_, k21 (pthL a b - 1) 0 _ (by omega) (by rw [gi_ne (Or.inr (by decide)), gi_eq]) (o36_trans o36_36 o36_37)⟩
