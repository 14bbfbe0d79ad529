/-! path -/
theorem isState_w {x : Int32} {M : wM} {Q : Int32 → wM → Prop} (q1 : 0 ≤ x.toInt ∧ x.toInt ≤ 15 → Q (nI 1) M) (q0 : ¬ (0 ≤ x.toInt ∧ x.toInt ≤ 15) → Q (nI 0) M) : w_X11_isState x M Q := by
  unfold w_X11_isState
  rw [lt_n (by decide), n_le (by decide)]
  exact ⟨fun h => q0 (by omega), fun h => ⟨fun k => q0 (by omega), fun k => q1 (by omega)⟩⟩
theorem Inv_path {X X' M M' : wM} (h : Inv X M) (a : o28 X X') (b : o36 M M') : Inv X' M' := by
  refine Inv_fr (T := [28, 29]) (S := [1036, 1037]) h ⟨fun x j q => a.1 x j ?_ ?_, a.2⟩ (fun x j q => b x j ?_)
  · rintro rfl; exact q (by simp [cX])
  · rintro rfl; exact q (by simp [cX])
  · by_cases z : x = 0
    · subst z
      refine Or.inr ⟨?_, ?_⟩
      · rintro rfl; exact q (by decide)
      · rintro rfl; exact q (by decide)
    · exact Or.inl z
theorem pathM_f {x1 x2 x3 : Int32} {M : wM} {Q : Int32 → wM → Prop} (c : ¬ ((0 ≤ x1.toInt ∧ x1.toInt ≤ 15) ∧ (0 ≤ x2.toInt ∧ x2.toInt ≤ 15) ∧ 0 ≤ x3.toInt ∧ x3.toInt ≤ 1)) (q : Q (-1) M) : w_X12_path x1 x2 x3 M Q := by
  unfold w_X12_path
  by_cases c1 : 0 ≤ x1.toInt ∧ x1.toInt ≤ 15
  · refine in_t (by decide) (hi_N (by decide)) c1 (bf ne10 ?_)
    by_cases c2 : 0 ≤ x2.toInt ∧ x2.toInt ≤ 15
    · exact in_t (by decide) (hi_N (by decide)) c2 (bf ne10 (in_f (by decide) (hi_N (by decide)) (fun z => c ⟨c1, c2, z⟩) (bt rfl q)))
    · exact in_f (by decide) (hi_N (by decide)) c2 (bt rfl q)
  · exact in_f (by decide) (hi_N (by decide)) c1 (bt rfl q)
theorem law_path (x1 x2 x3 : Int32) (Mx Mm : wM) (h : Inv Mx Mm) : w_X11_path x1 x2 x3 Mx (fun r A => w_X12_path x1 x2 x3 Mm (fun r2 B => r = r2 ∧ Inv A B)) := by
  unfold w_X11_path
  refine isState_w (fun c1 => bf ne10 (isState_w (fun c2 => bf ne10 (bc (fun z => pathM_f (fun y => ?_) ⟨rfl, h⟩) (fun z => bc (fun w => ?_) (fun w => pathM_f (fun y => ?_) ⟨rfl, h⟩)))) (fun c2 => bt rfl (pathM_f (fun y => c2 y.2.1) ⟨rfl, h⟩)))) (fun c1 => bt rfl (pathM_f (fun y => c1 y.1) ⟨rfl, h⟩))
  · rw [lt_n (by decide)] at z
    omega
  · rw [lt_n (by decide)] at z
    rw [le_n (by decide)] at w
    have c3 : 0 ≤ x3.toInt ∧ x3.toInt ≤ 1 := by omega
    obtain ⟨a, ha, rfl, ea⟩ := nI_ex (x := x1) c1.1
    obtain ⟨b, hb, rfl, eb⟩ := nI_ex (x := x2) c2.1
    obtain ⟨p1, p2, -, -⟩ := pth_ok b (by omega) a (by omega)
    have v16 : vp_in (nI a) 16 := vp_in_nI (by omega) (by decide)
    refine aimX (by omega) (fun A r o => ?_)
    rw [nI_clamp ha, (r.2.2 a (by omega)).1, (r.2.2 a (by omega)).2, p1, p2]
    have go : ∀ v : Int32, (∀ B : wM, gi B 0 36 = nI (pthL a b) → gi B 0 37 = nI (pthB a b) → Inv A B → (x3 = nI 0 → v = gi B 0 36 ∧ Inv A B) ∧ (¬ x3 = nI 0 → v = gi B 0 37 ∧ Inv A B)) → w_X12_path (nI a) (nI b) x3 Mm (fun r2 B => v = r2 ∧ Inv A B) := by
      intro v hv
      unfold w_X12_path
      exact in_t (by decide) (hi_N (by decide)) c1 (bf ne10 (in_t (by decide) (hi_N (by decide)) c2 (bf ne10 (in_t (by decide) (hi_N (by decide)) c3 (bf ne10 (findM (by omega) (by omega) (fun B o2 e1 e2 => hv B e1 e2 (Inv_path h o o2))))))))
    exact bc (fun y => ⟨v16, go _ (fun B e1 e2 i => bt y ⟨e1.symm, i⟩)⟩) (fun y => ⟨v16, go _ (fun B e1 e2 i => bf y ⟨e2.symm, i⟩)⟩)
  · rw [le_n (by decide)] at w
    omega
