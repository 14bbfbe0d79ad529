/-! the tick of UPDATE DATA -/
def w8 (X : wM) (c : Nat) : Nat := if xR X c < 2 then xT X c else xC X c &&& xO X c
theorem Tk_8 {X M : wM} {m d : Bool} {nc : Nat} (hN : nc ≤ 6) (eN : gi X 26 3 = nI nc) (h : Inv X M) (es : gi X 26 5 = nI 8) : Tk X M m d 8 (-4) (tl (up X (fun c => 34 + 3 * c) (fun _ => 4) (fun c => nI (w8 X c)) nc) 8 m) := by
  obtain ⟨nc', nn, h1, h3, e1, e2, e5, e6, hc⟩ := Inv_cf h
  obtain rfl : nc = nc' := inj31 (eN.symm.trans e1) (by omega) (by omega)
  obtain ⟨-, s2, hs2, f1, f2⟩ := h.2.2.2.2.2.1
  obtain rfl : s2 = 8 := inj31 (f1.symm.trans es) (by omega) (by omega)
  refine Tk_up (A := fun c => 34 + 3 * c) (J := fun _ => 4) (R := fun _ => 20) (v := fun c => nI (w8 X c)) h (by decide) (by decide) (by decide) (by decide) h1 e1 e2 es f2 (fun c => Or.inl rfl) (fun c => by decide) (fun np2 nn2 c hcc ok => chipOk_lat (by omega) ok (fun n' o' g1 g2 g3 g4 => ?_)) (fun i hi Q' q' => ?_) (fun i hi K kk => ?_)
  · obtain ⟨cP, pr, cr, cL, cN, cO, cI, cR, cW, cT, cU, cB, cD, cC, cA⟩ := hc c hcc
    obtain ⟨r0, r1, r2, r3, r4, r5, r6, r7, r8⟩ := cr
    have b1 := p10 g2
    have b2 := p10 r0.2.2.1
    obtain rfl : n' = xN X c := inj31 (g1.symm.trans cN.1) (by omega) (by omega)
    obtain rfl : o' = xO X c := inj31 (g3.symm.trans cO.1) (by omega) (by have := r0.2.2.2; omega)
    unfold w8
    by_cases z : xR X c < 2
    · rw [if_pos z]; exact ⟨r4, r5⟩
    · rw [if_neg z]
      exact ⟨Nat.lt_of_le_of_lt Nat.and_le_left r8, by rw [Nat.and_assoc, Nat.and_self]⟩
  · obtain ⟨cP, pr, cr, cL, cN, cO, cI, cR, cW, cT, cU, cB, cD, cC, cA⟩ := hc i hi
    obtain ⟨r0, r1, r2, r3, r4, r5, r6, r7, r8⟩ := cr
    have b2 := p10 r0.2.2.1
    have pt := pt_part (xP X i) cP.1
    have gpp : gp (up X (fun c => 34 + 3 * c) (fun _ => 4) (fun c => nI (w8 X c)) i) i = gp X i := up_gp i i
    have g : ∀ a j, a ≠ 34 + 3 * i ∧ 34 + 3 * i ≤ a ∨ a = 34 + 3 * i → gi (up X (fun c => 34 + 3 * c) (fun _ => 4) (fun c => nI (w8 X c)) i) a j = gi X a j := fun a j ha => up_ne i (fun c hc => Or.inl (by omega))
    refine ⟨by omega, bf (by decide) (bf (by decide) (bt rfl ⟨by omega, ?_⟩))⟩
    have q2 : Q' (si (up X (fun c => 34 + 3 * c) (fun _ => 4) (fun c => nI (w8 X c)) i) (34 + 3 * i) 4 (nI (w8 X i))) := q'
    dsimp only
    rw [gpp, g _ 2 (Or.inr rfl), g _ 4 (Or.inr rfl), g (35 + 3 * i) _ (Or.inl (by omega)), g (gp X i) 5 (Or.inl (by omega)), cR.1, cT.1, cO.1, nI_clamp (n := 2) (by decide), cC.1, nI_and (by omega) (by have := r0.2.2.2; omega)]
    by_cases z : xR X i < 2
    · rw [show w8 X i = xT X i from if_pos z] at q2
      exact bf (fun y => by have := inj31 y (by omega) (by decide); omega) (bf (fun y => by have := inj31 y (by omega) (by decide); omega) (bt rfl q2))
    · rw [show w8 X i = xC X i &&& xO X i from if_neg z] at q2
      have fin : vp_in (nI 2) 3 ∧ ptX (gp X i) ∧ Q' (si (up X (fun c => 34 + 3 * c) (fun _ => 4) (fun c => nI (w8 X c)) i) (34 + 3 * i) 4 (nI (xC X i &&& xO X i))) := ⟨vp_in_nI (by decide) (by decide), by rw [cP.2.1]; exact pt, q2⟩
      refine bc (fun _ => bf ne10 fin) (fun y => bt ?_ (bf ne10 fin))
      rw [show xR X i = 3 by
        have : xR X i ≠ 2 := fun w => y (by rw [w])
        omega]
  · obtain ⟨cP, pr, cr, cL, cN, cO, cI, cR, cW, cT, cU, cB, cD, cC, cA⟩ := hc i hi
    obtain ⟨r0, r1, r2, r3, r4, r5, r6, r7, r8⟩ := cr
    have b2 := p10 r0.2.2.1
    have v6 : vp_in (nI i) 6 := vp_in_nI (by omega) (by decide)
    have gM : ∀ a j, a ≠ 20 → gi (up M (fun _ => 20) (fun c => c) (fun c => nI (w8 X c)) i) a j = gi M a j := fun a j ha => up_ne i (fun c hc => Or.inl ha)
    have g20 : gi (up M (fun _ => 20) (fun c => c) (fun c => nI (w8 X c)) i) 20 i = nI (xT X i) := (up_ne i (fun c hc => Or.inr (by omega))).trans cT.2
    have q2 : K (nI (i + 1)) (si (up M (fun _ => 20) (fun c => c) (fun c => nI (w8 X c)) i) 20 i (nI (w8 X i))) := kk
    refine bf (by decide) (bf (by decide) (bf (by decide) (bt rfl ⟨v6, ?_⟩)))
    rw [gM 15 i (by decide), cR.2, gM 14 i (by decide), cP.2.2.2, nI_clamp (n := xP X i) (by omega), gM 19 i (by decide), cC.2, gM 6 _ (by decide), cO.2, nI_and (by omega) (by have := r0.2.2.2; omega)]
    by_cases z : xR X i < 2
    · rw [show w8 X i = xT X i from if_pos z] at q2
      rw [si_same g20] at q2
      exact bt (by rw [lt_n (by decide), nI_toInt (by omega)]; omega) q2
    · rw [show w8 X i = xC X i &&& xO X i from if_neg z] at q2
      exact bf (by rw [lt_n (by decide), nI_toInt (by omega)]; omega) ⟨v6, v6, vp_in_nI cP.1 (by decide), v6, q2⟩
