/-! ticks that write no chip -/
def idle (s : Nat) : Prop := s ≠ 0 ∧ s ≠ 3 ∧ s ≠ 4 ∧ s ≠ 8 ∧ s ≠ 10 ∧ s ≠ 11 ∧ s ≠ 15
theorem act0 {X : wM} {s c : Nat} {lv : Int32} {Q : wM → Prop} (hc : c < 6) (hs : s < 16) (h : idle s) (q : Q X) : w_X1_act c (nI s) lv X Q := by
  obtain ⟨a0, a3, a4, a8, a10, a11, a15⟩ := h
  have n : ∀ k, k < 16 → s ≠ k → ¬ nI s = nI k := fun k hk z y => z (inj31 y (by omega) (by omega))
  exact ⟨hc, bf (n 0 (by decide) a0) (bf (n 3 (by decide) a3) (bf (n 8 (by decide) a8) (bf (n 10 (by decide) a10) (bf (n 15 (by decide) a15) q))))⟩
theorem stepX_idle {X : wM} {s nc : Nat} {m d : Bool} {Q : Int32 → wM → Prop} (hn : nc ≤ 6) (hs : s < 16) (e : gi X 26 3 = nI nc) (es : gi X 26 5 = nI s) (h : idle s) (q : Q (-4) (si (si X 26 5 (nI (nx s m))) 26 6 (gi X 26 6 + nI 1))) : w_X0_step (bI m) (bI d) X Q := by
  have n : ∀ k, k < 16 → s ≠ k → ¬ nI s = nI k := fun k hk z y => z (inj31 y (by omega) (by omega))
  have key : ∀ k i, i + k = nc → wL_X0_step_65 (bI m) (-4) (nI 0) Q (k + 1) (nI i) X := by
    intro k
    induction k with
    | zero =>
      intro i hi
      obtain rfl : i = nc := by omega
      show wb_X0_step_65 _ _ _ _ _ _ Q
      unfold wb_X0_step_65
      rw [e]
      exact bt (nI_le (by omega) (by omega)) (tailX hs es q)
    | succ k ih =>
      intro i hi
      show wb_X0_step_65 (bI m) (-4) (nI 0) (wL_X0_step_65 (bI m) (-4) (nI 0) Q (k + 1)) _ _ Q
      unfold wb_X0_step_65
      rw [e, es, nI_clamp (by omega), nI_add]
      exact bf (nI_ge (by omega) (by omega)) ⟨vp_in_nI (by omega) (by decide), act0 (by omega) hs h (ih (i + 1) (by omega))⟩
  unfold w_X0_step
  rw [es]
  exact bf (n 4 (by decide) h.2.2.1) (bf (n 11 (by decide) h.2.2.2.2.2.1) (bf (n 3 (by decide) h.2.1) ⟨nc + 1, key nc 0 (by omega)⟩))
theorem stepM_idle {M : wM} {s nc : Nat} {m d : Bool} {Q : Int32 → wM → Prop} (hn : nc ≤ 6) (hs : s < 16) (e : gi M 0 22 = nI nc) (es : gi M 0 33 = nI s) (h : idle s) (q : Q (-4) (si (si M 0 33 (nI (nx s m))) 0 34 (gi M 0 34 + nI 1))) : w_X12_ticks1 (bI m) (bI d) M Q := by
  have n : ∀ k, k < 16 → s ≠ k → ¬ nI s = nI k := fun k hk z y => z (inj31 y (by omega) (by omega))
  obtain ⟨a0, a3, a4, a8, a10, a11, a15⟩ := h
  have key : ∀ k i, i + k = nc → wL_X12_ticks1_44 (bI m) (-4) Q (k + 1) (nI i) M := by
    intro k
    induction k with
    | zero =>
      intro i hi
      obtain rfl : i = nc := by omega
      show wb_X12_ticks1_44 _ _ _ _ _ Q
      unfold wb_X12_ticks1_44
      rw [e, es]
      exact bt (nI_le (by omega) (by omega)) (goesM hs m q)
    | succ k ih =>
      intro i hi
      show wb_X12_ticks1_44 (bI m) (-4) (wL_X12_ticks1_44 (bI m) (-4) Q (k + 1)) _ _ Q
      unfold wb_X12_ticks1_44
      rw [e, es, nI_add]
      exact bf (nI_ge (by omega) (by omega)) (bf (n 0 (by decide) a0) (bf (n 10 (by decide) a10) (bf (n 15 (by decide) a15) (bf (n 8 (by decide) a8) (ih (i + 1) (by omega))))))
  unfold w_X12_ticks1 wj_X12_ticks1_41
  rw [es]
  exact bf (n 11 (by decide) a11) (bf (n 4 (by decide) a4) (bf (n 3 (by decide) a3) ⟨nc + 1, key nc 0 (by omega)⟩))
