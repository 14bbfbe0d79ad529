/-! one tick: its end -/
theorem nx_ok : ∀ s, s < 16 → aA 0 s = nI (nx s false) ∧ aA 1 s = nI (nx s true) := by decide
theorem tailX {s : Nat} {m : Bool} {r : Int32} {X : wM} {Q : Int32 → wM → Prop} (hs : s < 16) (e : gi X 26 5 = nI s) (q : Q r (si (si X 26 5 (nI (nx s m))) 26 6 (gi X 26 6 + nI 1))) : wj_X0_step_96 (bI m) r X Q := by
  unfold wj_X0_step_96
  rw [e, nI_clamp (by omega), (nx_ok s hs).1, (nx_ok s hs).2]
  cases m
  · exact bt rfl ⟨vp_in_nI hs (by decide), q⟩
  · exact bf ne10 ⟨vp_in_nI hs (by decide), q⟩
theorem Inv_tail {X M : wM} {s : Nat} {m : Bool} (h : Inv X M) (e : gi X 26 5 = nI s) (hs : s < 16) : Inv (si (si X 26 5 (nI (nx s m))) 26 6 (gi X 26 6 + nI 1)) (si (si M 0 33 (nI (nx s m))) 0 34 (gi M 0 34 + nI 1)) := by
  obtain ⟨e1, s2, -, e2, e3⟩ := h.2.2.2.2.2.1
  refine Inv_fr (T := [3605, 3606]) (S := [1033, 1034]) h (sX_trans (sX_si (by decide)) (sX_si (by decide))) (sM_trans (sM_si (by decide)) (sM_si (by decide))) (hS := Or.inr ⟨?_, nx s m, nx_lt s hs m, ?_, ?_⟩)
  · rw [gi_eq, gi_eq, e1]
  · rw [gi_ne (Or.inr (by decide)), gi_eq]
  · rw [gi_ne (Or.inr (by decide)), gi_eq]
