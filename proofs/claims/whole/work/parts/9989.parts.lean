/-! parts -/
theorem law_parts (Mx Mm : wM) (h : Inv Mx Mm) : w_X11_parts Mx (fun r A => w_X12_parts Mm (fun r2 B => r = r2 ∧ Inv A B)) := by
  obtain ⟨n, hn, t1, t2, t3⟩ := id h.1
  obtain ⟨nc, np, nn, h1, h2, h3, e1, e2, e3, e4, kc, kn⟩ := id h.2.2.2.1
  by_cases z : nc = 0
  · subst z
    let b : Nat → Nat := fun j => (gi Mm 13 j).toNatClampNeg
    have hb : ∀ j, j < n → b j < 256 ∧ gi Mm 13 j = nI (b j) ∧ gi Mx 2 j = (nI (b j)).toInt8.toInt32 := by
      intro j hj
      obtain ⟨k, k1, k2, k3⟩ := t3 j hj
      have eb : b j = k := by
        show (gi Mm 13 j).toNatClampNeg = k
        rw [k2, nI_clamp (by omega)]
      rw [eb]
      exact ⟨k1, k2, k3⟩
    have tx : TX Mx b n := ⟨hn, t1, fun j hj => ⟨(hb j hj).1, (hb j hj).2.2⟩⟩
    have tm : TM Mm b n := ⟨hn, t2, fun j hj => ⟨(hb j hj).1, (hb j hj).2.1⟩⟩
    refine ptsX tx e1 (fun A l ht fx a1 a2 a3 a4 => ptsM tm e2 (fun B l' ht' fm b1 b2 b3 b4 => ?_) (fun B c f ht' => by rw [ht] at ht'; cases ht')) (fun A c f ht fx a1 a3 => ptsM tm e2 (fun B l' ht' => by rw [ht] at ht'; cases ht') (fun B c' f' ht' fm b1 b3 => ?_))
    · rw [ht] at ht'
      injection ht' with ht'
      subst ht'
      obtain ⟨ll, lg⟩ := txt_ok 240 [] l 0 (Nat.zero_le _) (by decide) (fun j P h => by cases h) ht
      refine ⟨rfl, Inv_fr (T := [1003, 1101, 1300, 1301, 1302, 1303, 1304, 1305, 1306, 1307, 1308, 5, 6, 7, 8, 9, 10, 65, 66, 67, 68, 69, 70]) (S := [1000, 1007, 1015, 1016, 1017, 1018, 1019, 1020, 1021, 1, 2, 3, 4, 5, 6, 7, 8, 9, 10, 11, 12]) h ⟨fun a j q => fx.1 a j ?_ ?_ ?_ ?_ ?_, fx.2⟩ (fun a j q => fm a j ?_ ?_) (hT := Or.inr ⟨0, by decide, a1, b1, fun j hj => by omega⟩) (hW := Or.inr (a3.trans b3.symm)) (hP := Or.inr ⟨l.length, ll, a2, b2, fun p hp => ?_⟩) (hC := Or.inr ⟨0, l.length, nn, by decide, ll, h3, ?_, ?_, a2, ?_, fun c hc => by omega, fun c _ hc => ?_⟩)⟩
      · by_cases w : a = 3
        · subst w
          refine Or.inr (Classical.byContradiction fun y => q ?_)
          rcases (show j = 0 ∨ j = 1 ∨ j = 2 ∨ j = 3 ∨ j = 4 ∨ j = 5 ∨ j = 6 ∨ j = 7 ∨ j = 8 by omega) with rfl | rfl | rfl | rfl | rfl | rfl | rfl | rfl | rfl <;> decide
        · exact Or.inl w
      · refine Classical.byContradiction fun y => q ?_
        rcases (show a = 5 ∨ a = 6 ∨ a = 7 ∨ a = 8 ∨ a = 9 ∨ a = 10 by omega) with rfl | rfl | rfl | rfl | rfl | rfl <;> simp [cX]
      · refine Classical.byContradiction fun y => q ?_
        rcases (show a = 65 ∨ a = 66 ∨ a = 67 ∨ a = 68 ∨ a = 69 ∨ a = 70 by omega) with rfl | rfl | rfl | rfl | rfl | rfl <;> simp [cX]
      · refine Classical.byContradiction fun y => q ?_
        obtain ⟨rfl, rfl⟩ : a = 1 ∧ j = 1 := by omega
        decide
      · refine Classical.byContradiction fun y => q ?_
        obtain ⟨rfl, rfl⟩ : a = 0 ∧ j = 3 := by omega
        decide
      · by_cases w : a = 0
        · subst w
          refine Or.inr (Classical.byContradiction fun y => q ?_)
          rcases (show j = 0 ∨ j = 7 ∨ j = 15 ∨ j = 16 ∨ j = 17 ∨ j = 18 ∨ j = 19 ∨ j = 20 ∨ j = 21 by omega) with rfl | rfl | rfl | rfl | rfl | rfl | rfl | rfl | rfl <;> decide
        · exact Or.inl w
      · refine Classical.byContradiction fun y => q ?_
        rcases (show a = 1 ∨ a = 2 ∨ a = 3 ∨ a = 4 ∨ a = 5 ∨ a = 6 ∨ a = 7 ∨ a = 8 ∨ a = 9 ∨ a = 10 ∨ a = 11 ∨ a = 12 by omega) with rfl | rfl | rfl | rfl | rfl | rfl | rfl | rfl | rfl | rfl | rfl | rfl <;> simp [cM]
      · obtain ⟨P, hP⟩ : ∃ P, l[p]? = some P := ⟨_, List.getElem?_eq_getElem hp⟩
        obtain ⟨x0, x1, x5, x2, x3, x4⟩ := a4 p P hP
        obtain ⟨y0, y1, y5, y2, y3, y4⟩ := b4 p P hP
        obtain ⟨⟨g1, g2, g3, g4, g5, g6⟩, wh⟩ := lg p P hP
        refine ⟨P.1, P.2.1, P.2.2.1, P.2.2.2.1, P.2.2.2.2.1, P.2.2.2.2.2, ⟨g1.1, g1.2, g2, g3, g4, g5, fun w => ?_, fun w => ?_, g6⟩, ⟨x0, y0⟩, ⟨x1, y1⟩, ⟨x5, y5⟩, ⟨x2, y2⟩, ⟨x3, y3⟩, x4, y4⟩
        · rcases wh with v | v
          · omega
          · exact v.2
        · rcases wh with v | v
          · exact v.2
          · omega
      · rw [fx.1 26 3 (by decide) (by decide) (by decide) (by decide) (by decide)]; exact e1
      · rw [fm 0 22 (by decide) (by decide)]; exact e2
      · rw [fx.1 12 0 (by decide) (by decide) (by decide) (by decide) (by decide)]; exact e4
      · have k : ∀ i j, i < 3 → gi A (34 + i + 3 * c) j = gi Mx (34 + i + 3 * c) j := fun i j hi => fx.1 _ _ (Or.inl (by omega)) (by omega) (by omega) (Or.inl (by omega)) (Or.inl (by omega))
        exact chipNo_fr (kn c (by omega) hc) (fun j => k 0 j (by decide)) (fun j => k 1 j (by decide)) (fun j => k 2 j (by decide))
    · rw [ht] at ht'
      injection ht' with ht'
      injection ht' with hc hf
      subst hc hf
      refine ⟨rfl, Inv_fr (T := [1101, 1300, 1301, 1302, 1303, 1304, 1305, 1306, 1307, 1308, 5, 6, 7, 8, 9, 10]) (S := [1007, 1015, 1016, 1017, 1018, 1019, 1020, 1021, 7, 8, 9, 10, 11, 12]) h ⟨fun a j q => fx.1 a j ?_ ?_ ?_, fx.2⟩ (fun a j q => fm a j ?_ ?_) (hT := Or.inr ⟨0, by decide, a1, b1, fun j hj => by omega⟩) (hW := Or.inr (a3.trans b3.symm))⟩
      · by_cases w : a = 3
        · subst w
          refine Or.inr (Classical.byContradiction fun y => q ?_)
          rcases (show j = 0 ∨ j = 1 ∨ j = 2 ∨ j = 3 ∨ j = 4 ∨ j = 5 ∨ j = 6 ∨ j = 7 ∨ j = 8 by omega) with rfl | rfl | rfl | rfl | rfl | rfl | rfl | rfl | rfl <;> decide
        · exact Or.inl w
      · refine Classical.byContradiction fun y => q ?_
        rcases (show a = 5 ∨ a = 6 ∨ a = 7 ∨ a = 8 ∨ a = 9 ∨ a = 10 by omega) with rfl | rfl | rfl | rfl | rfl | rfl <;> simp [cX]
      · refine Classical.byContradiction fun y => q ?_
        obtain ⟨rfl, rfl⟩ : a = 1 ∧ j = 1 := by omega
        decide
      · by_cases w : a = 0
        · subst w
          refine Or.inr (Classical.byContradiction fun y => q ?_)
          rcases (show j = 7 ∨ j = 15 ∨ j = 16 ∨ j = 17 ∨ j = 18 ∨ j = 19 ∨ j = 20 ∨ j = 21 by omega) with rfl | rfl | rfl | rfl | rfl | rfl | rfl | rfl <;> decide
        · exact Or.inl w
      · refine Classical.byContradiction fun y => q ?_
        rcases (show a = 7 ∨ a = 8 ∨ a = 9 ∨ a = 10 ∨ a = 11 ∨ a = 12 by omega) with rfl | rfl | rfl | rfl | rfl | rfl <;> simp [cM]
  · unfold w_X11_parts w_X12_parts
    rw [e1, e2]
    exact bf (nI_ge (by omega) (by omega)) (bf (nI_ge (by omega) (by omega)) ⟨rfl, h⟩)
