/-! the ticks of UPDATE ORDERS and UPDATE DATA -/
def w15 (X : wM) (c : Nat) : Nat := if gi X (34 + 3 * c) 3 = gi X (gp X c) 3 then 2 else if gi X (34 + 3 * c) 3 = gi X (gp X c) 4 then 3 else if gi X (gp X c) 2 = -4 then 0 else if gi X (34 + 3 * c) 3 = jshl (nI 1) (gi X (gp X c) 0) - nI 2 then 1 else 0
theorem Tk_15 {X M : wM} {m d : Bool} {nc : Nat} (hN : nc ≤ 6) (eN : gi X 26 3 = nI nc) (h : Inv X M) (es : gi X 26 5 = nI 15) : Tk X M m d 15 (-4) (tl (up X (fun c => 34 + 3 * c) (fun _ => 2) (fun c => nI (w15 X c)) nc) 15 m) := by
  obtain ⟨nc', np, nn, h1, h2, h3, e1, e2, e3, e4, e5, e6, hc⟩ := Inv_nc h
  obtain rfl : nc = nc' := inj31 (eN.symm.trans e1) (by omega) (by omega)
  obtain ⟨-, s2, hs2, f1, f2⟩ := h.2.2.2.2.2.1
  obtain rfl : s2 = 15 := inj31 (f1.symm.trans es) (by omega) (by omega)
  have w4 : ∀ c, w15 X c < 4 := fun c => by unfold w15; split <;> (try split) <;> (try split) <;> (try split) <;> omega
  refine Tk_up (A := fun c => 34 + 3 * c) (J := fun _ => 2) (R := fun _ => 15) (v := fun c => nI (w15 X c)) h (by decide) (by decide) (by decide) (by decide) h1 e1 e2 es f2 (fun c => Or.inl rfl) (fun c => by decide) (fun np2 nn2 c hcc ok => chipOk_ord (by omega) ok ⟨w4 c, fun L' n' g1 g2 g3 z => ?_⟩) (fun i hi Q' q' => ?_) (fun i hi K kk => ?_)
  · obtain ⟨p, L, n, o, idv, sa, ex, ord, orow, lat, opn, br, cr, k1, pr, cr2, k4, k5, k6, k7, k8⟩ := hc c hcc
    have n10 := pr.2.2.1
    have hL := pr.2.1
    rw [k4, k6.2.1.1] at g2
    obtain rfl : n = n' := inj31 g2 (by omega) (by omega)
    have ho : orow < 2 ^ 31 := Nat.lt_of_lt_of_le cr2.2.2.2.1 (Nat.pow_le_pow_right (by decide) (by omega))
    have hne : nI orow ≠ -4 := n4_ne ho
    have hn0 := pr.2.2.2.2.2.2.1
    unfold w15 at z
    rw [k4, k7.2.1.1, k6.2.2.2.2.1.1, k6.2.2.2.2.2.1] at z
    by_cases c0 : n = 0
    · obtain ⟨y1, y2⟩ := hn0 c0
      rw [y1, y2, if_neg hne, if_neg hne] at z
      split at z
      · omega
      · split at z <;> omega
    · omega
  · obtain ⟨p, L, n, o, idv, sa, ex, ord, orow, lat, opn, br, cr, k1, pr, cr2, k4, k5, k6, k7, k8⟩ := hc i hi
    have pt := pt_part p (by omega)
    have gpp : gp (up X (fun c => 34 + 3 * c) (fun _ => 2) (fun c => nI (w15 X c)) i) i = 65 + p := (up_gp i i).trans k4
    have g3 : gi (up X (fun c => 34 + 3 * c) (fun _ => 2) (fun c => nI (w15 X c)) i) (34 + 3 * i) 3 = gi X (34 + 3 * i) 3 := up_ne i (fun c hc => Or.inl (by omega))
    have gP : ∀ j, gi (up X (fun c => 34 + 3 * c) (fun _ => 2) (fun c => nI (w15 X c)) i) (65 + p) j = gi X (65 + p) j := fun j => up_ne i (fun c hc => Or.inl (by omega))
    refine ⟨by omega, bf (by decide) (bf (by decide) (bf (by decide) (bf (by decide) (bt rfl ?_))))⟩
    rw [gpp, g3]
    unfold w_X4_orderOf
    rw [gP, gP, gP, gP]
    have q2 : Q' (si (up X (fun c => 34 + 3 * c) (fun _ => 2) (fun c => nI (w15 X c)) i) (34 + 3 * i) 2 (nI (w15 X i))) := q'
    unfold w15 at q2
    rw [k4] at q2
    refine ⟨pt, pt, bc (fun z => ?_) (fun z => bc (fun y => ?_) (fun y => bc (fun x => ?_) (fun x => bc (fun w => ?_) (fun w => ?_))))⟩
    · rw [if_pos z] at q2; exact q2
    · rw [if_neg z, if_pos y] at q2; exact q2
    · rw [if_neg z, if_neg y, if_pos x] at q2; exact q2
    · rw [if_neg z, if_neg y, if_neg x, if_pos w] at q2; exact q2
    · rw [if_neg z, if_neg y, if_neg x, if_neg w] at q2; exact q2
  · obtain ⟨p, L, n, o, idv, sa, ex, ord, orow, lat, opn, br, cr, k1, pr, cr2, k4, k5, k6, k7, k8⟩ := hc i hi
    have v6 : vp_in (nI i) 6 := vp_in_nI (by omega) (by decide)
    have p6 : vp_in (nI p) 6 := vp_in_nI (by omega) (by decide)
    have hL := pr.2.1
    have ho : orow < 2 ^ 31 := Nat.lt_of_lt_of_le cr2.2.2.2.1 (Nat.pow_le_pow_right (by decide) (by omega))
    have hne : nI orow ≠ -4 := n4_ne ho
    have gM : ∀ a j, a ≠ 15 → gi (up M (fun _ => 15) (fun c => c) (fun c => nI (w15 X c)) i) a j = gi M a j := fun a j ha => up_ne i (fun c hc => Or.inl ha)
    have h2L : 2 ^ L ≤ 256 := Nat.pow_le_pow_right (n := 2) (j := 8) (by decide) hL
    have h4L : 4 ≤ 2 ^ L := Nat.pow_le_pow_right (n := 2) (i := 2) (by decide) pr.1
    have q2 : K (nI (i + 1)) (si (up M (fun _ => 15) (fun c => c) (fun c => nI (w15 X c)) i) 15 i (nI (w15 X i))) := kk
    unfold w15 at q2
    rw [k4, k7.2.1.1, k6.2.2.2.2.1.1, k6.2.2.2.2.2.1, k6.2.2.2.1.1, k6.1.1, bshl1 (by omega), pk_sub (by omega)] at q2
    refine bf (by decide) (bf (by decide) (bt rfl ?_))
    unfold w_X12_orderBy
    rw [nI_clamp (n := i) (by omega), gM 14 i (by decide), k5.2, nI_clamp (n := p) (by omega), gM 16 i (by decide), k7.2.1.2, gM 4 p (by decide), k6.2.2.2.2.2.2, gM 3 p (by decide), k6.2.2.2.2.1.2, gM 1 p (by decide), k6.1.2, gM 2 p (by decide), k6.2.2.2.1.2, bshl1 (by omega), pk_sub (by omega), pk_sub (by omega), show 2 ^ L - 1 - 1 = 2 ^ L - 2 by omega]
    refine ⟨v6, v6, p6, p6, bc (fun z => ?_) (fun z => ⟨p6, bc (fun y => ?_) (fun y => bc (fun w => ⟨p6, bc (fun x => ?_) (fun x => ?_)⟩) (fun w => ?_))⟩)⟩
    · have ns : ¬ nI orow = sa := fun y => by
        rcases pr.2.2.2.2.2.2.2.2 with u | u
        · exact hne (y.trans u)
        · exact u (y.symm.trans z)
      rw [if_neg ns, if_pos z] at q2; exact ⟨v6, q2⟩
    · rw [if_pos y] at q2; exact ⟨v6, q2⟩
    · rw [if_neg y, if_neg z, if_pos x] at q2; exact ⟨v6, q2⟩
    · rw [if_neg y, if_neg z, if_neg x, if_pos w] at q2; exact ⟨v6, q2⟩
    · rw [if_neg y, if_neg z, if_neg w] at q2
      simp only [ite_self] at q2
      exact ⟨v6, q2⟩
