/-! rows, sheets, opens -/
theorem nI_mul (a b : Nat) : nI a * nI b = nI (a * b) := (Int32.ofNat_mul a b).symm
def wd (n : Nat) : Nat := if n = 0 then 1 else if n ≤ 2 then 2 else if n ≤ 6 then 3 else 4
theorem wd_ok : ∀ n, n ≤ 8 → (∀ i, i < wd n → ¬ nI n + nI 2 ≤ jshl (nI 1) (nI i)) ∧ nI n + nI 2 ≤ jshl (nI 1) (nI (wd n)) := by
  have h : ∀ n, n < 9 → (∀ i, i < wd n → ¬ nI n + nI 2 ≤ jshl (nI 1) (nI i)) ∧ nI n + nI 2 ≤ jshl (nI 1) (nI (wd n)) := by decide
  exact fun n hn => h n (by omega)
theorem wd_le (n : Nat) : wd n ≤ 4 := by
  unfold wd
  split <;> (try split) <;> (try split) <;> omega
theorem widX {M : wM} {Q : Int32 → wM → Prop} {n : Nat} (hn : n ≤ 8) (e : gi M 12 0 = nI n) (q : Q (nI (wd n)) M) : w_X10_width M Q := by
  have hw := wd_le n
  have key : ∀ k i, i + k = wd n → wL_X10_width_2 Q (k + 1) (nI i) M := by
    intro k
    induction k with
    | zero =>
      intro i hi
      obtain rfl : i = wd n := by omega
      show wb_X10_width_2 _ (nI (wd n)) M Q
      exact bf (nI_ge (by omega) (by decide)) (bt (by rw [e]; exact (wd_ok n hn).2) q)
    | succ k ih =>
      intro i hi
      show wb_X10_width_2 (wL_X10_width_2 Q (k + 1)) (nI i) M Q
      refine bf (nI_ge (by omega) (by decide)) (bf (by rw [e]; exact (wd_ok n hn).1 i (by omega)) ?_)
      rw [nI_add]
      exact ih (i + 1) (by omega)
  exact ⟨_, key (wd n) 0 (by omega)⟩
theorem widM {M : wM} {Q : Int32 → wM → Prop} {n : Nat} (hn : n ≤ 8) (e : gi M 0 41 = nI n) (q : Q (nI (wd n)) M) : w_X12_wide M Q := by
  have key : ∀ k i, i + k = wd n → wL_X12_wide_2 Q (k + 1) (nI i) M := by
    intro k
    induction k with
    | zero =>
      intro i hi
      obtain rfl : i = wd n := by omega
      show wb_X12_wide_2 _ (nI (wd n)) M Q
      exact bt (by rw [e]; exact (wd_ok n hn).2) q
    | succ k ih =>
      intro i hi
      show wb_X12_wide_2 (wL_X12_wide_2 Q (k + 1)) (nI i) M Q
      refine bf (by rw [e]; exact (wd_ok n hn).1 i (by omega)) ?_
      rw [nI_add]
      exact ih (i + 1) (by omega)
  exact ⟨_, key (wd n) 0 (by omega)⟩
def rc (s n : Nat) : Nat := if s = 0 then wd n else if s = 1 then 2 * wd n else n
theorem rcX {M : wM} {Q : Int32 → wM → Prop} {s n : Nat} (hs : s < 3) (hn : n ≤ 8) (e : gi M 12 0 = nI n) (q : Q (nI (rc s n)) M) : w_X10_rowCount (nI s) M Q := by
  unfold w_X10_rowCount
  rcases (show s = 0 ∨ s = 1 ∨ s = 2 by omega) with rfl | rfl | rfl
  · exact bt rfl (widX hn e q)
  · refine bf (by decide) (bt rfl (widX hn e ?_))
    rw [nI_mul]
    exact q
  · refine bf (by decide) (bf (by decide) ?_)
    rw [e]
    exact q
theorem rcM {M : wM} {Q : Int32 → wM → Prop} {s n : Nat} (hs : s < 3) (hn : n ≤ 8) (e : gi M 0 41 = nI n) (q : Q (nI (rc s n)) M) : w_X12_rowsOf (nI s) M Q := by
  unfold w_X12_rowsOf
  rcases (show s = 0 ∨ s = 1 ∨ s = 2 by omega) with rfl | rfl | rfl
  · exact bf (by decide) (bf (by decide) (widM hn e q))
  · refine bf (by decide) (bt rfl (widM hn e ?_))
    rw [nI_mul]
    exact q
  · refine bt rfl ?_
    rw [e]
    exact q
theorem isSort_w {x : Int32} {M : wM} {Q : Int32 → wM → Prop} (q1 : 0 ≤ x.toInt ∧ x.toInt ≤ 2 → Q (nI 1) M) (q0 : ¬ (0 ≤ x.toInt ∧ x.toInt ≤ 2) → Q (nI 0) M) : w_X11_isSort x M Q := by
  unfold w_X11_isSort
  rw [lt_n (by decide), n_le (by decide)]
  exact ⟨fun h => q0 (by omega), fun h => ⟨fun k => q0 (by omega), fun k => q1 (by omega)⟩⟩
theorem isSheet_w {x : Int32} {M : wM} {Q : Int32 → wM → Prop} (q1 : 0 ≤ x.toInt ∧ x.toInt ≤ 3 → Q (nI 1) M) (q0 : ¬ (0 ≤ x.toInt ∧ x.toInt ≤ 3) → Q (nI 0) M) : w_X11_isSheet x M Q := by
  unfold w_X11_isSheet
  rw [lt_n (by decide), n_le (by decide)]
  exact ⟨fun h => q0 (by omega), fun h => ⟨fun k => q0 (by omega), fun k => q1 (by omega)⟩⟩
theorem isLane_w {x : Int32} {M : wM} {Q : Int32 → wM → Prop} (q1 : 0 ≤ x.toInt ∧ x.toInt ≤ 2 → Q (nI 1) M) (q0 : ¬ (0 ≤ x.toInt ∧ x.toInt ≤ 2) → Q (nI 0) M) : w_X11_isLane x M Q := by
  unfold w_X11_isLane
  rw [lt_n (by decide), n_le (by decide)]
  exact ⟨fun h => q0 (by omega), fun h => ⟨fun k => q0 (by omega), fun k => q1 (by omega)⟩⟩
theorem law_rows (x1 : Int32) (Mx Mm : wM) (h : Inv Mx Mm) : w_X11_rows x1 Mx (fun r A => w_X12_rows x1 Mm (fun r2 B => r = r2 ∧ Inv A B)) := by
  obtain ⟨n, hn, e1, e2, -⟩ := h.2.2.2.2.2.2.2.1
  unfold w_X11_rows w_X12_rows
  refine isSort_w (fun q => ?_) (fun q => bt rfl (in_f (by decide) (hi_N (by decide)) q (bt rfl ⟨rfl, h⟩)))
  obtain ⟨s, hs, rfl, es⟩ := nI_ex (x := x1) q.1
  refine bf ne10 (bc (fun z => in_t (by decide) (hi_N (by decide)) q (bf ne10 (bt (by rw [e2, ← e1]; exact z) ⟨rfl, h⟩))) (fun z => rcX (by omega) hn e1 (in_t (by decide) (hi_N (by decide)) q (bf ne10 (bf (by rw [e2, ← e1]; exact z) (rcM (by omega) hn e2 ⟨rfl, h⟩))))))
/-- Arrays.fill -/
theorem fillX {a : Nat} {v : Int32} {M : wM} {Q : wM → Prop} (h : iaX a) (hl : lnX a < 2 ^ 31) (q : ∀ M' : wM, (∀ j, j < lnX a → gi M' a j = v) → (∀ a' j, a' ≠ a → gi M' a' j = gi M a' j) → (∀ c, gp M' c = gp M c) → Q M') : w_J7_fill_53178 a v M Q := by
  have key : ∀ k i (M : wM), i + k = lnX a → (∀ M' : wM, (∀ j, i ≤ j → j < lnX a → gi M' a j = v) → (∀ a' j, a' ≠ a ∨ j < i → gi M' a' j = gi M a' j) → (∀ c, gp M' c = gp M c) → Q M') → wL_J7_fill_53178_5 a v (nI (lnX a)) Q (k + 1) (nI i) M := by
    intro k
    induction k with
    | zero =>
      intro i M hi q
      show wb_J7_fill_53178_5 a v (nI (lnX a)) _ (nI i) M Q
      exact bt (nI_le (by omega) (by omega)) (q M (fun j h1 h2 => by omega) (fun _ _ _ => rfl) (fun _ => rfl))
    | succ k ih =>
      intro i M hi q
      show wb_J7_fill_53178_5 a v (nI (lnX a)) (wL_J7_fill_53178_5 a v (nI (lnX a)) Q (k + 1)) (nI i) M Q
      refine bf (nI_ge (by omega) (by omega)) ⟨vp_in_nI (by omega) (by omega), ?_⟩
      rw [nI_add, nI_clamp (by omega)]
      refine ih (i + 1) _ (by omega) (fun M' h1 h2 h3 => q M' (fun j g1 g2 => ?_) (fun a' j g => ?_) h3)
      · by_cases hj : j = i
        · rw [h2 a j (Or.inr (by omega)), hj, gi_eq]
        · exact h1 j (by omega) g2
      · rw [h2 a' j (g.imp id (fun g => by omega)), gi_ne (g.imp id (fun g => by omega))]
  refine ⟨h, lnX a + 1, key (lnX a) 0 M (by omega) (fun M' h1 h2 h3 => q M' (fun j hj => h1 j (Nat.zero_le _) hj) (fun a' j ha => h2 a' j (Or.inl ha)) h3)⟩
theorem ia_sheet : ∀ k, k < 4 → iaX (72 + 2 * k) ∧ lnX (72 + 2 * k) = 100 := by
  have h : ∀ k, k < 4 → shX[72 + 2 * k]? = some (20, lnX (72 + 2 * k)) ∧ lnX (72 + 2 * k) = 100 := by decide
  exact h
theorem isSheetM_t {x y : Int32} {M : wM} {Q : Int32 → wM → Prop} (h : 0 ≤ x.toInt ∧ x.toInt ≤ 3) (k : 0 ≤ y.toInt ∧ y.toInt ≤ 2) (q : Q (nI 1) M) : w_X12_isSheet x y M Q := in_t (by decide) (hi_N (by decide)) h (bf ne10 (in_t (by decide) (hi_N (by decide)) k (bf ne10 q)))
theorem isSheetM_f {x y : Int32} {M : wM} {Q : Int32 → wM → Prop} (h : ¬ ((0 ≤ x.toInt ∧ x.toInt ≤ 3) ∧ 0 ≤ y.toInt ∧ y.toInt ≤ 2)) (q : Q (nI 0) M) : w_X12_isSheet x y M Q := by
  by_cases c : 0 ≤ x.toInt ∧ x.toInt ≤ 3
  · exact in_t (by decide) (hi_N (by decide)) c (bf ne10 (in_f (by decide) (hi_N (by decide)) (fun z => h ⟨c, z⟩) (bt rfl q)))
  · exact in_f (by decide) (hi_N (by decide)) c (bt rfl q)
/-- the reference clears a sheet -/
theorem sheetL {k : Nat} {M : wM} {Q : Int32 → wM → Prop} (hk : k < 4) (q : ∀ M' : wM, (∀ j, j < 100 → gi M' 42 (100 * k + j) = nI 0) → (∀ a' j, a' ≠ 42 ∨ j < 100 * k ∨ 100 * k + 100 ≤ j → gi M' a' j = gi M a' j) → Q (nI 1) M') : ∃ n, wL_X12_sheet_40 (nI k) Q n (nI 0) M := by
  have key : ∀ t i (M : wM), i + t = 100 → (∀ M' : wM, (∀ j, i ≤ j → j < 100 → gi M' 42 (100 * k + j) = nI 0) → (∀ a' j, a' ≠ 42 ∨ j < 100 * k + i ∨ 100 * k + 100 ≤ j → gi M' a' j = gi M a' j) → Q (nI 1) M') → wL_X12_sheet_40 (nI k) Q (t + 1) (nI i) M := by
    intro t
    induction t with
    | zero =>
      intro i M hi q
      show wb_X12_sheet_40 (nI k) _ (nI i) M Q
      exact bt (nI_le (by omega) (by omega)) (q M (fun j h1 h2 => by omega) (fun _ _ _ => rfl))
    | succ t ih =>
      intro i M hi q
      show wb_X12_sheet_40 (nI k) (wL_X12_sheet_40 (nI k) Q (t + 1)) (nI i) M Q
      have e : nI 100 * nI k + nI i = nI (100 * k + i) := by
        rw [← nI_add]
        exact congrArg (· + nI i) (Int32.ofNat_mul 100 k).symm
      rw [show wb_X12_sheet_40 (nI k) (wL_X12_sheet_40 (nI k) Q (t + 1)) (nI i) M Q = ((nI 100 ≤ nI i → Q (nI 1) M) ∧ (¬ nI 100 ≤ nI i → vp_in (nI 100 * nI k + nI i) 400 ∧ (wL_X12_sheet_40 (nI k) Q (t + 1) (nI i + nI 1) (si M 42 (nI 100 * nI k + nI i).toNatClampNeg (nI 0))))) from rfl, e]
      refine bf (nI_ge (by omega) (by omega)) ⟨vp_in_nI (by omega) (by omega), ?_⟩
      rw [nI_add, nI_clamp (by omega)]
      refine ih (i + 1) _ (by omega) (fun M' h1 h2 => q M' (fun j g1 g2 => ?_) (fun a' j g => ?_))
      · by_cases hj : j = i
        · rw [h2 42 _ (Or.inr (Or.inl (by omega))), hj, gi_eq]
        · exact h1 j (by omega) g2
      · rw [h2 a' j (g.imp id (fun g => by omega)), gi_ne (g.imp id (fun g => by omega))]
  exact ⟨101, key 100 0 M (by omega) (fun M' h1 h2 => q M' (fun j hj => h1 j (Nat.zero_le _) hj) (fun a' j g => h2 a' j (g.imp id (fun g => by omega))))⟩
theorem m14 : ∀ k k' : Nat, k' < 4 → k < 4 → k' ≠ k → (71 + 2 * k' ≠ 71 + 2 * k ∧ 72 + 2 * k' ≠ 72 + 2 * k) := by omega
theorem law_sheet (x1 x2 x3 : Int32) (Mx Mm : wM) (h : Inv Mx Mm) : w_X11_sheet x1 x2 x3 Mx (fun r A => w_X12_sheet x1 x2 x3 Mm (fun r2 B => r = r2 ∧ Inv A B)) := by
  have hH := h.2.2.2.2.2.2.2.2.1
  unfold w_X11_sheet
  by_cases c1 : 0 ≤ x1.toInt ∧ x1.toInt ≤ 3
  · by_cases c2 : 0 ≤ x2.toInt ∧ x2.toInt ≤ 2
    · refine isSheet_w (fun _ => bf ne10 (isLane_w (fun _ => bf ne10 ?_) (fun z => absurd c2 z))) (fun z => absurd c1 z)
      unfold w_X12_sheet
      refine bc (fun q => bc (fun w => ?_) (fun w => isSheetM_t c1 c2 (bf ne10 (bt q (bf w ⟨rfl, h⟩))))) (fun q => isSheetM_t c1 c2 (bf ne10 (bf q ⟨rfl, h⟩)))
      obtain ⟨k, hk, rfl, ek⟩ := nI_ex (x := x1) c1.1
      have q1 := q
      have w1 := w
      rw [le_n (by decide)] at q1
      rw [n_le (by decide)] at w1
      obtain ⟨s, hs, rfl, es⟩ := nI_ex (x := x3) (by omega)
      obtain ⟨l, hl, rfl, el⟩ := nI_ex (x := x2) c2.1
      have k4 : k < 4 := by omega
      refine ⟨vp_in_nI k4 (by decide), ?_⟩
      rw [nI_clamp hk]
      refine ⟨k4, fillX (ia_sheet k k4).1 (by rw [(ia_sheet k k4).2]; decide) (fun A a1 a2 a3 => ?_)⟩
      rw [(ia_sheet k k4).2] at a1
      refine isSheetM_t c1 c2 (bf ne10 (bt q (bt w ⟨vp_in_nI k4 (by decide), vp_in_nI k4 (by decide), sheetL k4 (fun B b1 b2 => ⟨rfl, ?_⟩)⟩)))
      refine Inv_fr (T := [71, 72, 73, 74, 75, 76, 77, 78]) (S := [40, 41, 42]) h ⟨fun a j ha => ?_, fun c => a3 c⟩ (fun a j ha => ?_) (hH := Or.inr (fun k' hk' => ?_))
      · have ha2 : a ≠ 71 + 2 * k ∧ a ≠ 72 + 2 * k := by
          constructor
          · rintro rfl
            exact ha (by rcases (show k = 0 ∨ k = 1 ∨ k = 2 ∨ k = 3 by omega) with rfl | rfl | rfl | rfl <;> simp [cX])
          · rintro rfl
            exact ha (by rcases (show k = 0 ∨ k = 1 ∨ k = 2 ∨ k = 3 by omega) with rfl | rfl | rfl | rfl <;> simp [cX])
        rw [a2 a j ha2.2, gi_ne (Or.inl ha2.1), gi_ne (Or.inl ha2.1)]
      · have ha2 : a ≠ 40 ∧ a ≠ 41 ∧ a ≠ 42 := by
          refine ⟨?_, ?_, ?_⟩ <;> rintro rfl <;> exact ha (by simp [cM])
        rw [b2 a j (Or.inl ha2.2.2), gi_ne (Or.inl ha2.2.1), gi_ne (Or.inl ha2.1)]
      · by_cases hkk : k' = k
        · subst hkk
          have g0 : gi A (71 + 2 * k') 0 = nI l := by rw [a2 _ _ (by omega), gi_ne (Or.inr (by decide)), gi_eq]
          have g1 : gi A (71 + 2 * k') 1 = nI s := by rw [a2 _ _ (by omega), gi_eq]
          have g2 : gi B 40 k' = nI l := by rw [b2 _ _ (Or.inl (by decide)), gi_ne (Or.inl (by decide)), gi_eq]
          have g3 : gi B 41 k' = nI s := by rw [b2 _ _ (Or.inl (by decide)), gi_eq]
          refine ⟨by rw [g0, g2], by rw [g1, g3], Or.inr ⟨l, by omega, g0⟩, ⟨s, by omega, g1⟩, fun _ j hj => ?_⟩
          rw [a1 j hj, b1 j hj]
        · have ne := m14 k k' hk' k4 hkk
          refine sheetOk_fr (hH k' hk') (fun j => ?_) (fun j => ?_) ?_ ?_ (fun j hj => ?_)
          · rw [a2 _ _ (by omega), gi_ne (Or.inl ne.1), gi_ne (Or.inl ne.1)]
          · rw [a2 _ _ ne.2, gi_ne (Or.inl (by omega)), gi_ne (Or.inl (by omega))]
          · rw [b2 _ _ (Or.inl (by decide)), gi_ne (Or.inl (by decide)), gi_ne (Or.inr hkk)]
          · rw [b2 _ _ (Or.inl (by decide)), gi_ne (Or.inr hkk), gi_ne (Or.inl (by decide))]
          · rw [b2 _ _ (by omega), gi_ne (Or.inl (by decide)), gi_ne (Or.inl (by decide))]
    · refine isSheet_w (fun _ => bf ne10 (isLane_w (fun z => absurd z c2) (fun _ => bt rfl ?_))) (fun z => absurd c1 z)
      exact isSheetM_f (fun z => c2 z.2) (bt rfl ⟨rfl, h⟩)
  · exact isSheet_w (fun z => absurd z c1) (fun _ => bt rfl (isSheetM_f (fun z => c1 z.1) (bt rfl ⟨rfl, h⟩)))
