/-! the ticks of SHIFT ORDERS and SHIFT DATA -/
def o11 (X : wM) (c : Nat) : Bool := decide (gi X (34 + 3 * c) 3 &&& nI 1 = nI 1)
def v11 (X : wM) (d : Bool) (c : Nat) : Int32 := nI (xW X c / 2 ||| (thr X c (cy (o11 X) d c)).toNat * 2 ^ (xL X c - 1))
theorem Tk_11 {X M : wM} {m d : Bool} {nc : Nat} (hN : nc ≤ 6) (eN : gi X 26 3 = nI nc) (h : Inv X M) (es : gi X 26 5 = nI 11) : Tk X M m d 11 (bI (thr X nc (cy (o11 X) d nc))) (tl (up X (fun c => 34 + 3 * c) (fun _ => 3) (v11 X d) nc) 11 m) := by
  obtain ⟨nc', nn, h1, h3, e1, e2, e5, e6, hc⟩ := Inv_cf h
  obtain rfl : nc = nc' := inj31 (eN.symm.trans e1) (by omega) (by omega)
  obtain ⟨-, s2, hs2, f1, f2⟩ := h.2.2.2.2.2.1
  obtain rfl : s2 = 11 := inj31 (f1.symm.trans es) (by omega) (by omega)
  refine Tk_sh (A := fun c => 34 + 3 * c) (J := fun _ => 3) (R := fun _ => 16) (out := o11 X) (v := v11 X d) h (Or.inr rfl) h1 e1 e2 es f2 (fun c => Or.inl rfl) (fun c => by decide) (fun np2 nn2 c hcc ok => chipOk_orow (by omega) ok (fun L g1 g2 => ?_)) (fun i hi Q' q' => ⟨fun _ => ?_, fun z => absurd rfl z⟩) (fun Q i hi K kk => ⟨fun _ => ?_, fun z => absurd rfl z⟩)
  · obtain ⟨cP, pr, cr, cL, cN, cO, cI, cR, cW, cT, cU, cB, cD, cC, cA⟩ := hc c hcc
    obtain rfl : L = xL X c := inj31 (g1.symm.trans cL.1) (by omega) (by have := pr.2.1; omega)
    exact shv_lt cr.2.2.2.1 (by have := pr.1; omega)
  · obtain ⟨cP, pr, cr, cL, cN, cO, cI, cR, cW, cT, cU, cB, cD, cC, cA⟩ := hc i hi
    have pt := pt_part (xP X i) cP.1
    have gpp : gp (up X (fun c => 34 + 3 * c) (fun _ => 3) (v11 X d) i) i = gp X i := up_gp i i
    have g : ∀ a j, 34 + 3 * i ≤ a → gi (up X (fun c => 34 + 3 * c) (fun _ => 3) (v11 X d) i) a j = gi X a j := fun a j ha => up_ne i (fun c hc => Or.inl (by omega))
    have q2 : Q' (bI (o11 X i)) (si (up X (fun c => 34 + 3 * c) (fun _ => 3) (v11 X d) i) (34 + 3 * i) 3 (v11 X d i)) := q'
    refine ⟨by omega, by rw [gpp, cP.2.1]; exact pt, ?_⟩
    unfold w_X1_shifted
    rw [gpp, g _ _ (Nat.le_refl _), g (gp X i) 0 (by omega), cL.1, and1, cW.1, shvX cr.2.2.2.1 (by have := pr.1; omega) (by have := pr.2.1; omega)]
    unfold o11 at q2
    rw [cW.1] at q2
    exact q2
  · obtain ⟨cP, pr, cr, cL, cN, cO, cI, cR, cW, cT, cU, cB, cD, cC, cA⟩ := hc i hi
    have v6 : vp_in (nI i) 6 := vp_in_nI (by omega) (by decide)
    have gM : ∀ a j, a ≠ 16 ∨ i ≤ j → gi (up M (fun _ => 16) (fun c => c) (v11 X d) i) a j = gi M a j := fun a j ha => up_ne i (fun c hc => by omega)
    have q2 : K (bI (o11 X i)) (nI (i + 1)) (si (up M (fun _ => 16) (fun c => c) (v11 X d) i) 16 i (v11 X d i)) := kk
    refine bt (by rw [gM 0 33 (Or.inl (by decide)), f2]) ?_
    rw [nI_clamp (n := i) (by omega), gM 16 i (Or.inr (Nat.le_refl _)), gM 14 i (Or.inl (by decide)), cP.2.2.2, nI_clamp (n := xP X i) (by omega), gM 1 _ (Or.inl (by decide)), cL.2, cW.2, and1, shvM cr.2.2.2.1 (by have := pr.1; omega) (by have := pr.2.1; omega), nI_add]
    unfold o11 at q2
    rw [cW.1] at q2
    exact ⟨v6, v6, vp_in_nI cP.1 (by decide), v6, q2⟩
def plr (r : Nat) : Nat := if r < 2 then r else 2
def lnr (U : wM) (c r : Nat) : Int32 := if r = 0 then nI 1 else if r = 1 then nI 32 else gi U (gp U c) 1
theorem plr_lt (r : Nat) : plr r < 3 := by unfold plr; split <;> omega
theorem regPl {U : wM} {c r : Nat} {Q : Int32 → wM → Prop} (hc : c < 6) (er : gi U (34 + 3 * c) 2 = nI r) (r4 : r < 4) (q : Q (nI (plr r)) U) : w_X1_registerPlace c U Q := by
  unfold w_X1_registerPlace
  rw [er]
  unfold plr at q
  by_cases z : r < 2
  · rw [if_pos z] at q
    exact ⟨hc, bf (nI_ge z (by decide)) q⟩
  · rw [if_neg z] at q
    exact ⟨hc, bt (nI_le (by omega) (by omega)) q⟩
theorem regLn {U : wM} {c r : Nat} {Q : Int32 → wM → Prop} (hc : c < 6) (er : gi U (34 + 3 * c) 2 = nI r) (r4 : r < 4) (pt : ptX (gp U c)) (q : Q (lnr U c r) U) : w_X1_registerLength c U Q := by
  unfold w_X1_registerLength
  rw [er]
  unfold lnr at q
  by_cases z : r = 0
  · rw [if_pos z] at q
    exact ⟨hc, bt (by rw [z]) q⟩
  · rw [if_neg z] at q
    refine ⟨hc, bf (fun y => z (inj31 y (by omega) (by decide))) ?_⟩
    by_cases w : r = 1
    · rw [if_pos w] at q
      exact bt (by rw [w]) q
    · rw [if_neg w] at q
      exact bf (fun y => w (inj31 y (by omega) (by decide))) ⟨pt, q⟩
theorem sdX {U : wM} {c r : Nat} {x : Int32} {Q : Int32 → wM → Prop} (hc : c < 6) (er : gi U (34 + 3 * c) 2 = nI r) (r4 : r < 4) (pt : ptX (gp U c)) (q : Q (gi U (35 + 3 * c) (plr r) &&& nI 1) (si U (35 + 3 * c) (plr r) ((jushr (gi U (35 + 3 * c) (plr r)) (nI 1)) ||| (jshl x (lnr U c r - nI 1))))) : w_X1_shiftData c x U Q := by
  have p3 := plr_lt r
  have v3 : vp_in (nI (plr r)) 3 := vp_in_nI p3 (by decide)
  refine ⟨hc, regPl hc er r4 ⟨v3, v3, regLn hc er r4 pt ?_⟩⟩
  rw [nI_clamp (by omega)]
  exact ⟨v3, q⟩
theorem rowM {M : wM} {c r : Nat} {Q : Int32 → wM → Prop} (hc : c < 6) (er : gi M 15 c = nI r) (r4 : r < 4) (q : Q (gi M (17 + plr r) c) M) : w_X12_rowNow (nI c) M Q := by
  have v6 : vp_in (nI c) 6 := vp_in_nI hc (by decide)
  unfold w_X12_rowNow
  rw [nI_clamp (by omega), er]
  unfold plr at q
  rcases (show r = 0 ∨ r = 1 ∨ 2 ≤ r by omega) with z | z | z
  · subst z
    exact ⟨v6, bt rfl ⟨v6, q⟩⟩
  · subst z
    exact ⟨v6, bf (by decide) ⟨v6, bt rfl ⟨v6, q⟩⟩⟩
  · rw [if_neg (by omega)] at q
    exact ⟨v6, bf (fun y => by have := inj31 y (by omega) (by decide); omega) ⟨v6, bf (fun y => by have := inj31 y (by omega) (by decide); omega) ⟨v6, q⟩⟩⟩
def o4 (X : wM) (c : Nat) : Bool := decide (gi X (35 + 3 * c) (plr (xR X c)) &&& nI 1 = nI 1)
def v4 (X : wM) (d : Bool) (c : Nat) : Int32 := if xR X c = 0 then bI (thr X c (cy (o4 X) d c)) else if xR X c = 1 then (jushr (gi X (35 + 3 * c) 1) (nI 1)) ||| (jshl (bI (thr X c (cy (o4 X) d c))) (nI 31)) else nI (xC X c / 2 ||| (thr X c (cy (o4 X) d c)).toNat * 2 ^ (xN X c - 1))
theorem br_v : ∀ w, w < 2 → ∀ b : Bool, (jushr (nI w) (nI 1)) ||| (jshl (bI b) (nI 1 - nI 1)) = bI b := by decide
theorem Tk_4 {X M : wM} {m d : Bool} {nc : Nat} (hN : nc ≤ 6) (eN : gi X 26 3 = nI nc) (h : Inv X M) (es : gi X 26 5 = nI 4) : Tk X M m d 4 (bI (thr X nc (cy (o4 X) d nc))) (tl (up X (fun c => 35 + 3 * c) (fun c => plr (xR X c)) (v4 X d) nc) 4 m) := by
  obtain ⟨nc', nn, h1, h3, e1, e2, e5, e6, hc⟩ := Inv_cf h
  obtain rfl : nc = nc' := inj31 (eN.symm.trans e1) (by omega) (by omega)
  obtain ⟨-, s2, hs2, f1, f2⟩ := h.2.2.2.2.2.1
  obtain rfl : s2 = 4 := inj31 (f1.symm.trans es) (by omega) (by omega)
  refine Tk_sh (A := fun c => 35 + 3 * c) (J := fun c => plr (xR X c)) (R := fun c => 17 + plr (xR X c)) (out := o4 X) (v := v4 X d) h (Or.inl rfl) h1 e1 e2 es f2 (fun c => Or.inr rfl) (fun c => by have := plr_lt (xR X c); omega) (fun np2 nn2 c hcc ok => ?_) (fun i hi Q' q' => ⟨fun z => absurd z (by decide), fun _ => ?_⟩) (fun Q i hi K kk => ⟨fun z => absurd z (by decide), fun _ => ?_⟩)
  · obtain ⟨cP, pr, cr, cL, cN, cO, cI, cR, cW, cT, cU, cB, cD, cC, cA⟩ := hc c hcc
    obtain ⟨r0, r1, r2, r3, r4, r5, r6, r7, r8⟩ := cr
    unfold v4
    rcases (show xR X c = 0 ∨ xR X c = 1 ∨ 2 ≤ xR X c by omega) with z | z | z
    · rw [if_pos z, z, bI_nat]
      exact chipOk_br (by omega) ok (by cases thr X c (cy (o4 X) d c) <;> decide)
    · rw [if_neg (by omega), if_pos z, z]
      exact chipOk_id (by omega) ok
    · rw [if_neg (by omega), if_neg (by omega), show plr (xR X c) = 2 from if_neg (by omega)]
      refine chipOk_cr (by omega) ok (fun n g1 g2 => ?_)
      obtain rfl : n = xN X c := inj31 (g1.symm.trans cN.1) (by omega) (by have := pr.2.2.1; omega)
      exact shv_lt r8 (r2 z)
  · obtain ⟨cP, pr, cr, cL, cN, cO, cI, cR, cW, cT, cU, cB, cD, cC, cA⟩ := hc i hi
    obtain ⟨r0, r1, r2, r3, r4, r5, r6, r7, r8⟩ := cr
    have pt := pt_part (xP X i) cP.1
    have gpp : gp (up X (fun c => 35 + 3 * c) (fun c => plr (xR X c)) (v4 X d) i) i = gp X i := up_gp i i
    have g : ∀ a j, 34 + 3 * i ≤ a → gi (up X (fun c => 35 + 3 * c) (fun c => plr (xR X c)) (v4 X d) i) a j = gi X a j := fun a j ha => up_ne i (fun c hc => Or.inl (by omega))
    have q2 : Q' (bI (o4 X i)) (si (up X (fun c => 35 + 3 * c) (fun c => plr (xR X c)) (v4 X d) i) (35 + 3 * i) (plr (xR X i)) (v4 X d i)) := q'
    refine sdX (by omega) ((g _ _ (Nat.le_refl _)).trans cR.1) r1 (by rw [gpp, cP.2.1]; exact pt) ?_
    have el : lnr (up X (fun c => 35 + 3 * c) (fun c => plr (xR X c)) (v4 X d) i) i (xR X i) = lnr X i (xR X i) := by
      unfold lnr
      rw [gpp, g (gp X i) 1 (by omega)]
    rw [el, g _ _ (by omega), and1]
    have ev : (jushr (gi X (35 + 3 * i) (plr (xR X i))) (nI 1)) ||| (jshl (bI (thr X i (cy (o4 X) d i))) (lnr X i (xR X i) - nI 1)) = v4 X d i := by
      unfold v4 lnr
      rcases (show xR X i = 0 ∨ xR X i = 1 ∨ 2 ≤ xR X i by omega) with z | z | z
      · rw [if_pos z, if_pos z, z, show plr 0 = 0 from rfl, cB.1]
        exact br_v _ r7 _
      · rw [if_neg (by omega), if_pos z, if_neg (by omega), if_pos z, z]
        rfl
      · rw [if_neg (by omega), if_neg (by omega), if_neg (by omega), if_neg (by omega), show plr (xR X i) = 2 from if_neg (by omega), cC.1, cN.1]
        exact shvX r8 (r2 z) r0.2.2.1
    rw [ev]
    exact q2
  · obtain ⟨cP, pr, cr, cL, cN, cO, cI, cR, cW, cT, cU, cB, cD, cC, cA⟩ := hc i hi
    obtain ⟨r0, r1, r2, r3, r4, r5, r6, r7, r8⟩ := cr
    have v6 : vp_in (nI i) 6 := vp_in_nI (by omega) (by decide)
    have gM : ∀ a j, a < 17 ∨ 19 < a ∨ i ≤ j → gi (up M (fun c => 17 + plr (xR X c)) (fun c => c) (v4 X d) i) a j = gi M a j := fun a j ha => up_ne i (fun c hc => by have := plr_lt (xR X c); omega)
    have q2 : K (bI (o4 X i)) (nI (i + 1)) (si (up M (fun c => 17 + plr (xR X c)) (fun c => c) (v4 X d) i) (17 + plr (xR X i)) i (v4 X d i)) := kk
    refine rowM (by omega) ((gM 15 i (Or.inl (by decide))).trans cR.2) r1 (bf (by rw [gM 0 33 (Or.inl (by decide)), f2]; decide) ?_)
    have er : gi M (17 + plr (xR X i)) i = gi X (35 + 3 * i) (plr (xR X i)) := by
      rcases (show xR X i = 0 ∨ xR X i = 1 ∨ 2 ≤ xR X i by omega) with z | z | z
      · rw [z, show plr 0 = 0 from rfl, cB.1]; exact cB.2
      · rw [z, show plr 1 = 1 from rfl, cD]
      · rw [show plr (xR X i) = 2 from if_neg (by omega), cC.1]; exact cC.2
    rw [gM _ i (Or.inr (Or.inr (Nat.le_refl _))), er, and1, nI_add]
    unfold w_X12_shiftData
    rw [nI_clamp (n := i) (by omega), gM 15 i (Or.inl (by decide)), cR.2, gM 18 i (Or.inr (Or.inr (Nat.le_refl _))), gM 19 i (Or.inr (Or.inr (Nat.le_refl _))), gM 14 i (Or.inl (by decide)), cP.2.2.2, nI_clamp (n := xP X i) (by omega), gM 5 _ (Or.inl (by decide)), cN.2, cC.2]
    change K (bI (o4 X i)) (nI (i + 1)) (si (up M (fun c => 17 + plr (xR X c)) (fun c => c) (v4 X d) i) (17 + plr (xR X i)) i (if xR X i = 0 then bI (thr X i (cy (o4 X) d i)) else if xR X i = 1 then (jushr (gi X (35 + 3 * i) 1) (nI 1)) ||| (jshl (bI (thr X i (cy (o4 X) d i))) (nI 31)) else nI (xC X i / 2 ||| (thr X i (cy (o4 X) d i)).toNat * 2 ^ (xN X i - 1)))) at q2
    rcases (show xR X i = 0 ∨ xR X i = 1 ∨ 2 ≤ xR X i by omega) with z | z | z
    · rw [if_pos z, show plr (xR X i) = 0 by rw [z]; rfl] at q2
      exact ⟨v6, bt (by rw [z]) ⟨v6, q2⟩⟩
    · rw [if_neg (by omega), if_pos z, show plr (xR X i) = 1 by rw [z]; rfl, cD] at q2
      exact ⟨v6, bf (by rw [z]; decide) ⟨v6, bt (by rw [z]) ⟨v6, v6, q2⟩⟩⟩
    · rw [if_neg (by omega), if_neg (by omega), show plr (xR X i) = 2 from if_neg (by omega)] at q2
      rw [shvM r8 (r2 z) r0.2.2.1]
      exact ⟨v6, bf (fun y => by have := inj31 y (by omega) (by decide); omega) ⟨v6, bf (fun y => by have := inj31 y (by omega) (by decide); omega) ⟨v6, v6, vp_in_nI cP.1 (by decide), v6, q2⟩⟩⟩
