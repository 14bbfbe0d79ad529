/-! the loops of a tick -/
theorem actL {X : wM} {A J : Nat → Nat} {v : Nat → Int32} {s nc : Nat} {lv z1 z3 : Int32} {Q : Int32 → wM → Prop} (hn : nc ≤ 6) (e : gi X 26 3 = nI nc) (es : gi X 26 5 = nI s) (hA : ∀ c, A c = 34 + 3 * c ∨ A c = 35 + 3 * c) (act : ∀ i, i < nc → ∀ Q' : wM → Prop, Q' (up X A J v (i + 1)) → w_X1_act i (nI s) lv (up X A J v i) Q') (q : wj_X0_step_96 z1 z3 (up X A J v nc) Q) : wj_X0_step_60 z1 z3 lv X Q := by
  have xo : ∀ k j, gi (up X A J v k) 26 j = gi X 26 j := fun k j => up_ne k (fun c hc => Or.inl (by have := hA c; omega))
  have key : ∀ k i, i + k = nc → wL_X0_step_65 z1 z3 lv Q (k + 1) (nI i) (up X A J v i) := by
    intro k
    induction k with
    | zero =>
      intro i hi
      obtain rfl : i = nc := by omega
      show wb_X0_step_65 _ _ _ _ _ _ Q
      unfold wb_X0_step_65
      rw [xo, e]
      exact bt (nI_le (by omega) (by omega)) q
    | succ k ih =>
      intro i hi
      show wb_X0_step_65 z1 z3 lv (wL_X0_step_65 z1 z3 lv Q (k + 1)) _ _ Q
      unfold wb_X0_step_65
      rw [xo, xo, e, es, nI_clamp (by omega), nI_add]
      exact bf (nI_ge (by omega) (by omega)) ⟨vp_in_nI (by omega) (by decide), act i (by omega) _ (ih (i + 1) (by omega))⟩
  exact ⟨nc + 1, key nc 0 (by omega)⟩
/-- a tick of the reference that only goes on -/
theorem tickL {M : wM} {R : Nat → Nat} {v : Nat → Int32} {s nc : Nat} {m : Bool} {z3 : Int32} {Q : Int32 → wM → Prop} (hn : nc ≤ 6) (hs : s < 16) (e : gi M 0 22 = nI nc) (es : gi M 0 33 = nI s) (hR : ∀ c, 15 ≤ R c ∧ R c ≤ 21)
    (act : ∀ i, i < nc → ∀ K : Int32 → wM → Prop, K (nI (i + 1)) (up M R (fun c => c) v (i + 1)) → ((nI s = nI 0 → w_X12_resets (nI i) (up M R (fun c => c) v i) (fun M9 => K (nI (i + 1)) M9)) ∧ (¬ nI s = nI 0 → (nI s = nI 10 → vp_in (nI i) 6 ∧ (K (nI (i + 1)) (si (up M R (fun c => c) v i) 16 i (nI 1)))) ∧ (¬ nI s = nI 10 → (nI s = nI 15 → w_X12_orderBy (nI i) (up M R (fun c => c) v i) (fun r13 M14 => vp_in (nI i) 6 ∧ (K (nI (i + 1)) (si M14 15 i r13)))) ∧ (¬ nI s = nI 15 → (nI s = nI 8 → vp_in (nI i) 6 ∧ (((gi (up M R (fun c => c) v i) 15 i) < (nI 2) → K (nI (i + 1)) (up M R (fun c => c) v i)) ∧ (¬ (gi (up M R (fun c => c) v i) 15 i) < (nI 2) → vp_in (nI i) 6 ∧ (vp_in (nI i) 6 ∧ (vp_in (gi (up M R (fun c => c) v i) 14 i) 6 ∧ (vp_in (nI i) 6 ∧ (K (nI (i + 1)) (si (up M R (fun c => c) v i) 20 i ((gi (up M R (fun c => c) v i) 19 i) &&& (gi (up M R (fun c => c) v i) 6 (gi (up M R (fun c => c) v i) 14 i).toNatClampNeg)))))))))) ∧ (¬ nI s = nI 8 → K (nI (i + 1)) (up M R (fun c => c) v i)))))))
    (q : Q z3 (si (si (up M R (fun c => c) v nc) 0 33 (nI (nx s m))) 0 34 (gi (up M R (fun c => c) v nc) 0 34 + nI 1))) : wj_X12_ticks1_41 (bI m) z3 M Q := by
  have mo : ∀ k j, gi (up M R (fun c => c) v k) 0 j = gi M 0 j := fun k j => up_ne k (fun c hc => Or.inl (by have := hR c; omega))
  have key : ∀ k i, i + k = nc → wL_X12_ticks1_44 (bI m) z3 Q (k + 1) (nI i) (up M R (fun c => c) v i) := by
    intro k
    induction k with
    | zero =>
      intro i hi
      obtain rfl : i = nc := by omega
      show wb_X12_ticks1_44 _ _ _ _ _ Q
      unfold wb_X12_ticks1_44
      rw [mo i 22, e, mo i 33, es]
      exact bt (nI_le (by omega) (by omega)) (goesM hs m q)
    | succ k ih =>
      intro i hi
      show wb_X12_ticks1_44 (bI m) z3 (wL_X12_ticks1_44 (bI m) z3 Q (k + 1)) _ _ Q
      unfold wb_X12_ticks1_44
      rw [mo i 22, e, mo i 33, es, nI_clamp (n := i) (by omega), nI_add]
      exact bf (nI_ge (by omega) (by omega)) (act i (by omega) _ (ih (i + 1) (by omega)))
  exact ⟨nc + 1, key nc 0 (by omega)⟩
