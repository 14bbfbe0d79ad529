/-! the invariant at the start -/
theorem row_is {N : aV} {a n : Nat} {v : Int32} (h : rowIs N a n v = true) {j : Nat} (hj : j < n) : N.2.1 a j = v := of_decide_eq_true (all_range h hj)
theorem Inv_0 (N NM : aV) (hx : chkX N = true) (hm : chkM NM = true) : Inv (N.2.1, N.2.2.1, fun _ => 33) (NM.2.1, NM.2.2.1, fun _ => 0) := by
  unfold chkX at hx
  unfold chkM at hm
  simp only [Bool.and_eq_true, decide_eq_true_eq] at hx hm
  obtain ⟨⟨⟨⟨⟨⟨⟨⟨⟨⟨⟨⟨⟨⟨⟨-, -⟩, x03⟩, x11⟩, x33⟩, x263⟩, x265⟩, x266⟩, x268⟩, x120⟩, xc⟩, x31⟩, x14⟩, x13⟩, xs⟩, xh⟩ := hx
  obtain ⟨⟨⟨⟨⟨-, -⟩, m0⟩, m22⟩, m40⟩, m41⟩ := hm
  have m0' : ∀ j, j < 60 → gi (NM.2.1, NM.2.2.1, fun _ => 0) 0 j = nI 0 := fun j hj => (of_decide_eq_true (all_range m0 hj)).trans nI_0.symm
  have xc' : ∀ c, c < 6 → chipNo (N.2.1, N.2.2.1, fun _ => 33) c := by
    intro c hc
    have h := all_range xc hc
    simp only [Bool.and_eq_true, decide_eq_true_eq] at h
    obtain ⟨⟨⟨⟨⟨-, h3⟩, h4⟩, h6⟩, h7⟩, h8⟩ := h
    exact ⟨h3, h4, h6, fun i hi => row_is h7 hi, fun i hi => row_is h8 hi⟩
  refine ⟨⟨0, by decide, x11.trans nI_0.symm, m0' 15 (by decide), fun j hj => by omega⟩, x33.trans (nI_0.symm.trans (m0' 20 (by decide)).symm), ⟨0, by decide, x03.trans nI_0.symm, m0' 0 (by decide), fun p hp => by omega⟩, ⟨0, 0, 0, by decide, by decide, by decide, x263.trans nI_0.symm, m0' 22 (by decide), x03.trans nI_0.symm, x120.trans nI_0.symm, fun c hc => by omega, fun c _ hc => xc' c hc⟩, fun j hj => ⟨(row_is x31 hj).trans (row_is m22 hj).symm, Or.inl (row_is x31 hj)⟩, ⟨x266.trans (nI_0.symm.trans (m0' 34 (by decide)).symm), 0, by decide, x265.trans nI_0.symm, m0' 33 (by decide)⟩, ⟨0, by decide, x268.trans nI_0.symm, m0' 38 (by decide), fun j hj => by omega⟩, ⟨0, by decide, x120.trans nI_0.symm, m0' 41 (by decide), fun i hi => by omega, fun i _ hi => row_is x14 hi, fun a b ha => by omega, fun a b ha hb _ => row_is (all_range xs ha) hb⟩, fun k hk => ?_, ⟨0, by decide, x120.trans nI_0.symm, fun i hi => by omega⟩, fun i hi => ?_⟩
  · have h := all_range xh hk
    simp only [Bool.and_eq_true, decide_eq_true_eq] at h
    exact ⟨h.1.trans (row_is m40 hk).symm, h.2.trans (row_is m41 hk).symm, Or.inl h.1, ⟨0, by decide, h.2.trans nI_0.symm⟩, fun q => absurd h.1 q⟩
  · rw [ftN_eq]
    have e := fcn_more (g := gX (N.2.1, N.2.2.1, fun _ => 33)) (k := i) (m := 0) 60 (fun q _ hq => by
      have := (xc' (q / 10) (by omega)).2.2.2.2 (q % 10) (by omega)
      unfold gX
      rw [this]
      exact fun z => n4_ne (n := i) (by omega) z.symm)
    rw [Nat.zero_add] at e
    rw [e]
    exact (row_is x13 hi).trans nI_0.symm
