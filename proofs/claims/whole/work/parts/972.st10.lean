/-! the tick of CAPTURE ORDERS -/
theorem chip_L {X M : wM} {np nn c : Nat} (ok : chipOk X M np nn c) : ∃ p L n o : Nat, p < np ∧ gp X c = 65 + p ∧ gi X (gp X c) 0 = nI L ∧ gi X (gp X c) 1 = nI n ∧ gi X (gp X c) 5 = nI o ∧ 2 ≤ L ∧ L ≤ 8 ∧ n ≤ 10 ∧ o < 2 ^ n := by
  obtain ⟨p, L, n, o, ord, orow, lat, opn, br, cr, k1, k2, k3, k4, k5, k6, -⟩ := ok
  exact ⟨p, L, n, o, k1, k6, by rw [k6]; exact k2, by rw [k6]; exact k3, by rw [k6]; exact k4, k5.1.1, k5.1.2.1, k5.1.2.2.1, k5.1.2.2.2⟩
theorem Tk_10 {X M : wM} {m d : Bool} {nc : Nat} (hN : nc ≤ 6) (eN : gi X 26 3 = nI nc) (h : Inv X M) (es : gi X 26 5 = nI 10) : Tk X M m d 10 (-4) (tl (up X (fun c => 34 + 3 * c) (fun _ => 3) (fun _ => nI 1) nc) 10 m) := by
  obtain ⟨nc', np, nn, h1, h2, h3, e1, e2, e3, e4, e5, e6, hc⟩ := Inv_nc h
  obtain rfl : nc = nc' := inj31 (eN.symm.trans e1) (by omega) (by omega)
  obtain ⟨-, s2, hs2, f1, f2⟩ := h.2.2.2.2.2.1
  obtain rfl : s2 = 10 := inj31 (f1.symm.trans es) (by omega) (by omega)
  have hA : ∀ c : Nat, 34 + 3 * c = 34 + 3 * c ∨ 34 + 3 * c = 35 + 3 * c := fun c => Or.inl rfl
  have hR : ∀ c : Nat, 15 ≤ 16 ∧ 16 ≤ 21 := fun c => by decide
  have iu : Inv (up X (fun c => 34 + 3 * c) (fun _ => 3) (fun _ => nI 1) nc) (up M (fun _ => 16) (fun c => c) (fun _ => nI 1) nc) := Inv_up h h1 e1 hA hR (fun np nn c hc ok => chipOk_orow (by omega) ok (fun L g1 g2 => by
    obtain ⟨p, L', n, o, -, -, k2, -, -, k5, k6, -⟩ := chip_L ok
    obtain rfl : L' = L := inj31 (k2.symm.trans g1) (by omega) (by omega)
    exact Nat.one_lt_two_pow (by omega)))
  have xo : ∀ j, gi (up X (fun c => 34 + 3 * c) (fun _ => 3) (fun _ => nI 1) nc) 26 j = gi X 26 j := fun j => up_ne nc (fun c hc => Or.inl (by omega))
  refine Tk_mk (by decide) iu ((xo 5).trans es) (FX_up h1 hA) (xo 6) (FM_up hR) (fun Q q => ?_) (fun Q q => ?_) (Or.inl rfl) (by decide)
  · unfold w_X0_step
    rw [es]
    refine bf (by decide) (bf (by decide) (bf (by decide) (actL h1 e1 es hA (fun i hi Q' q' => ⟨by omega, bf (by decide) (bf (by decide) (bf (by decide) (bt rfl q')))⟩) (tailX (by decide) ((xo 5).trans es) q))))
  · unfold w_X12_ticks1
    rw [f2]
    exact bf (by decide) (bf (by decide) (bf (by decide) (tickL h1 (by decide) e2 f2 hR (fun i hi K kk => bf (by decide) (bt rfl ⟨vp_in_nI (by omega) (by decide), kk⟩)) q)))
