/-! the ticks of RESET, UPDATE ORDERS, UPDATE DATA -/
theorem si_same {M : wM} {a j : Nat} {x : Int32} (h : gi M a j = x) : si M a j x = M := by
  unfold si
  have e : aUp M.1 a j x = M.1 := by
    funext b k
    unfold aUp
    by_cases z : b = a ∧ k = j
    · rw [if_pos z, z.1, z.2]; exact h.symm
    · rw [if_neg z]
  rw [e]
section ST
variable {X M : wM} {m d : Bool}
/-- a tick that writes one number of each chip, on both sides -/
theorem Tk_up {s nc : Nat} {A J R : Nat → Nat} {v : Nat → Int32} (h : Inv X M) (hs : s < 16) (s3 : s ≠ 3) (s4 : s ≠ 4) (s11 : s ≠ 11) (hn : nc ≤ 6) (e1 : gi X 26 3 = nI nc) (e2 : gi M 0 22 = nI nc) (es : gi X 26 5 = nI s) (f2 : gi M 0 33 = nI s) (hA : ∀ c, A c = 34 + 3 * c ∨ A c = 35 + 3 * c) (hR : ∀ c, 15 ≤ R c ∧ R c ≤ 21)
    (hk : ∀ np nn c, c < nc → chipOk X M np nn c → chipOk (si X (A c) (J c) (v c)) (si M (R c) c (v c)) np nn c)
    (aX' : ∀ i, i < nc → ∀ Q' : wM → Prop, Q' (up X A J v (i + 1)) → w_X1_act i (nI s) (nI 0) (up X A J v i) Q')
    (aM : ∀ i, i < nc → ∀ K : Int32 → wM → Prop, K (nI (i + 1)) (up M R (fun c => c) v (i + 1)) → ((nI s = nI 0 → w_X12_resets (nI i) (up M R (fun c => c) v i) (fun M9 => K (nI (i + 1)) M9)) ∧ (¬ nI s = nI 0 → (nI s = nI 10 → vp_in (nI i) 6 ∧ (K (nI (i + 1)) (si (up M R (fun c => c) v i) 16 i (nI 1)))) ∧ (¬ nI s = nI 10 → (nI s = nI 15 → w_X12_orderBy (nI i) (up M R (fun c => c) v i) (fun r13 M14 => vp_in (nI i) 6 ∧ (K (nI (i + 1)) (si M14 15 i r13)))) ∧ (¬ nI s = nI 15 → (nI s = nI 8 → vp_in (nI i) 6 ∧ (((gi (up M R (fun c => c) v i) 15 i) < (nI 2) → K (nI (i + 1)) (up M R (fun c => c) v i)) ∧ (¬ (gi (up M R (fun c => c) v i) 15 i) < (nI 2) → vp_in (nI i) 6 ∧ (vp_in (nI i) 6 ∧ (vp_in (gi (up M R (fun c => c) v i) 14 i) 6 ∧ (vp_in (nI i) 6 ∧ (K (nI (i + 1)) (si (up M R (fun c => c) v i) 20 i ((gi (up M R (fun c => c) v i) 19 i) &&& (gi (up M R (fun c => c) v i) 6 (gi (up M R (fun c => c) v i) 14 i).toNatClampNeg)))))))))) ∧ (¬ nI s = nI 8 → K (nI (i + 1)) (up M R (fun c => c) v i))))))) : Tk X M m d s (-4) (tl (up X A J v nc) s m) := by
  have iu : Inv (up X A J v nc) (up M R (fun c => c) v nc) := Inv_up h hn e1 hA hR hk
  have xo : ∀ j, gi (up X A J v nc) 26 j = gi X 26 j := fun j => up_ne nc (fun c hc => Or.inl (by have := hA c; omega))
  refine Tk_mk hs iu ((xo 5).trans es) (FX_up hn hA) (xo 6) (FM_up hR) (fun Q q => ?_) (fun Q q => ?_) (Or.inl rfl) (fun z => absurd z (fun z => z.elim s4 s11))
  · unfold w_X0_step
    rw [es]
    exact bf (neS hs 4 (by decide) s4) (bf (neS hs 11 (by decide) s11) (bf (neS hs 3 (by decide) s3) (actL hn e1 es hA aX' (tailX hs ((xo 5).trans es) q))))
  · unfold w_X12_ticks1
    rw [f2]
    exact bf (neS hs 11 (by decide) s11) (bf (neS hs 4 (by decide) s4) (bf (neS hs 3 (by decide) s3) (tickL hn hs e2 f2 hR aM q)))
end ST
def w0 (X : wM) (c : Nat) : Nat := if gi X (gp X c) 2 = -4 then 0 else 1
theorem Tk_0 {X M : wM} {m d : Bool} {nc : Nat} (hN : nc ≤ 6) (eN : gi X 26 3 = nI nc) (h : Inv X M) (es : gi X 26 5 = nI 0) : Tk X M m d 0 (-4) (tl (up X (fun c => 34 + 3 * c) (fun _ => 2) (fun c => nI (w0 X c)) nc) 0 m) := by
  obtain ⟨nc', np, nn, h1, h2, h3, e1, e2, e3, e4, e5, e6, hc⟩ := Inv_nc h
  obtain rfl : nc = nc' := inj31 (eN.symm.trans e1) (by omega) (by omega)
  obtain ⟨-, s2, hs2, f1, f2⟩ := h.2.2.2.2.2.1
  obtain rfl : s2 = 0 := inj31 (f1.symm.trans es) (by omega) (by omega)
  have w2 : ∀ c, w0 X c < 2 := fun c => by unfold w0; split <;> omega
  refine Tk_up (A := fun c => 34 + 3 * c) (J := fun _ => 2) (R := fun _ => 15) (v := fun c => nI (w0 X c)) h (by decide) (by decide) (by decide) (by decide) h1 e1 e2 es f2 (fun c => Or.inl rfl) (fun c => by decide) (fun np nn c hc ok => chipOk_ord (by omega) ok ⟨by have := w2 c; omega, fun L n _ _ _ z => by have := w2 c; omega⟩) (fun i hi Q' q' => ?_) (fun i hi K kk => ?_)
  · obtain ⟨p, L, n, o, idv, sa, ex, ord, orow, lat, opn, br, cr, k1, pr, cr2, k4, k5, k6, k7, k8⟩ := hc i hi
    have pt := pt_part p (by omega)
    have gpp : gp (up X (fun c => 34 + 3 * c) (fun _ => 2) (fun c => nI (w0 X c)) i) i = 65 + p := (up_gp i i).trans k4
    refine ⟨by omega, bt rfl ?_⟩
    rw [gpp]
    refine ⟨pt, pt, ?_⟩
    rw [up_ne i (fun c hc => Or.inl (by omega))]
    have e : w0 X i = if gi X (65 + p) 2 = -4 then 0 else 1 := by unfold w0; rw [k4]
    refine bc (fun z => ?_) (fun z => ?_)
    · have q2 : Q' (si (up X (fun c => 34 + 3 * c) (fun _ => 2) (fun c => nI (w0 X c)) i) (34 + 3 * i) 2 (nI (w0 X i))) := q'
      rw [e, if_pos z] at q2
      exact q2
    · have q2 : Q' (si (up X (fun c => 34 + 3 * c) (fun _ => 2) (fun c => nI (w0 X c)) i) (34 + 3 * i) 2 (nI (w0 X i))) := q'
      rw [e, if_neg z] at q2
      exact q2
  · obtain ⟨p, L, n, o, idv, sa, ex, ord, orow, lat, opn, br, cr, k1, pr, cr2, k4, k5, k6, k7, k8⟩ := hc i hi
    have e : w0 X i = if idv = -4 then 0 else 1 := by unfold w0; rw [k4, k6.2.2.2.1.1]
    have v6 : vp_in (nI i) 6 := vp_in_nI (by omega) (by decide)
    have g14 : gi (up M (fun _ => 15) (fun c => c) (fun c => nI (w0 X c)) i) 14 i = nI p := (up_ne i (fun c hc => Or.inl (by decide))).trans k5.2
    have g2 : gi (up M (fun _ => 15) (fun c => c) (fun c => nI (w0 X c)) i) 2 p = idv := (up_ne i (fun c hc => Or.inl (by decide))).trans k6.2.2.2.1.2
    refine bt rfl ?_
    unfold w_X12_resets
    rw [nI_clamp (n := i) (by omega), g14, nI_clamp (n := p) (by omega), g2]
    have q2 : K (nI (i + 1)) (si (up M (fun _ => 15) (fun c => c) (fun c => nI (w0 X c)) i) 15 i (nI (w0 X i))) := kk
    refine ⟨v6, vp_in_nI (by omega) (by decide), bc (fun z => ⟨v6, ?_⟩) (fun z => ⟨v6, ?_⟩)⟩
    · rw [e, if_pos z] at q2; exact q2
    · rw [e, if_neg z] at q2; exact q2
