/-! the tick of CAPTURE DATA; every tick -/
def fr3 (M M' : wM) : Prop := ∀ x j, x ≠ 24 → x ≠ 29 → x ≠ 30 → gi M' x j = gi M x j
theorem Inv_s3 {X M M' : wM} (h : Inv X M) (f : fr3 M M') : Inv X M' :=
  Inv_fr (T := []) (S := [24, 29, 30]) h sX_refl (fun a j q => f a j (fun z => q (by rw [z]; simp [cM])) (fun z => q (by rw [z]; simp [cM])) (fun z => q (by rw [z]; simp [cM])))
def v3 (X : wM) (v c : Nat) : Int32 := if xR X c = 0 then nI 0 else if xR X c = 1 then gi X (gp X c) 2 else nI (bld (feB X c v) (xN X c))
theorem capM {X M : wM} {nc nn v : Nat} {Q : wM → Prop} (h : Inv X M) (h1 : nc ≤ 6) (h8 : nn ≤ 8) (e1 : gi X 26 3 = nI nc) (e : gi X 12 0 = nI nn) (hv : ∀ j, j < nn → ∀ mk r, HX X nn j mk r → v.testBit j = upB mk r (bld (ownB X nc) 8)) (q : ∀ M1 : wM, fr3 M M1 → Q (up M1 (fun c => 17 + plr (xR X c)) (fun c => c) (v3 X v) nc)) : w_X12_captures M Q := by
  refine lo1 (fun K y M => wb_X12_captures_2 K y M Q) (fun _ _ _ => rfl) nc (fun i M' => fr3 M M' ∧ ∀ c, c < i → gi M' 24 c = nI (bld (feB X c v) (xN X c))) ?_ ?_ (Nat.zero_le _) ⟨fun _ _ _ _ _ => rfl, fun c hc => by omega⟩
  · rintro i M' K hi ⟨f, g⟩ kk
    have h' := Inv_s3 h f
    obtain ⟨c1, c2, c3⟩ := Inv_cc h' h1 h8 e1 e
    unfold wb_X12_captures_2
    rw [c1]
    refine bf (nI_ge hi (by omega)) (ftfM h' h1 h8 e1 e hi hv (fun M2 f2 => ⟨vp_in_nI (by omega) (by decide), ?_⟩))
    rw [nI_add, nI_clamp (n := i) (by omega)]
    refine kk _ ⟨fun x j q1 q2 q3 => ?_, fun c hc => ?_⟩
    · rw [gi_ne (Or.inl q1), f2 x j q2 q3]; exact f x j q1 q2 q3
    · by_cases y : c = i
      · rw [y, gi_eq]
      · rw [gi_ne (Or.inr y), f2 24 c (by decide) (by decide)]; exact g c (by omega)
  · rintro M1 K ⟨f, g⟩
    have h' := Inv_s3 h f
    obtain ⟨c1, c2, c3⟩ := Inv_cc h' h1 h8 e1 e
    unfold wb_X12_captures_2
    rw [c1]
    refine bt (nI_le (by omega) (by omega)) ?_
    refine lo1 (fun K y M => wb_X12_captures_29 K y M Q) (fun _ _ _ => rfl) nc (fun i M' => M' = up M1 (fun c => 17 + plr (xR X c)) (fun c => c) (v3 X v) i) ?_ ?_ (Nat.zero_le _) rfl
    · rintro i M' K2 hi rfl kk
      obtain ⟨cP, pr, cr, cL, cN, cO, cI, cR, cW, cT, cU, cB, cD, cC, cA⟩ := c3 i hi
      have r1 := cr.2.1
      have v6 : vp_in (nI i) 6 := vp_in_nI (by omega) (by decide)
      have gM : ∀ a j, a < 17 ∨ 19 < a ∨ i ≤ j → gi (up M1 (fun c => 17 + plr (xR X c)) (fun c => c) (v3 X v) i) a j = gi M1 a j := fun a j ha => up_ne i (fun c hc => by have := plr_lt (xR X c); omega)
      have q2 : K2 (nI (i + 1)) (si (up M1 (fun c => 17 + plr (xR X c)) (fun c => c) (v3 X v) i) (17 + plr (xR X i)) i (v3 X v i)) := kk _ rfl
      unfold wb_X12_captures_29
      rw [gM 0 22 (Or.inl (by decide)), c1, nI_add, nI_clamp (n := i) (by omega), gM 15 i (Or.inl (by decide)), cR.2, gM 14 i (Or.inl (by decide)), cP.2.2.2, nI_clamp (n := xP X i) (by omega), gM 2 _ (Or.inl (by decide)), cI, gM 24 i (Or.inr (Or.inl (by decide))), g i hi]
      refine bf (nI_ge hi (by omega)) ⟨v6, ?_⟩
      rcases (show xR X i = 0 ∨ xR X i = 1 ∨ 2 ≤ xR X i by omega) with z | z | z
      · rw [show v3 X v i = nI 0 from if_pos z, show plr (xR X i) = 0 by rw [z]; rfl] at q2
        exact bt (by rw [z]) ⟨v6, q2⟩
      · rw [show v3 X v i = gi X (gp X i) 2 by unfold v3; rw [if_neg (by omega), if_pos z], show plr (xR X i) = 1 by rw [z]; rfl] at q2
        exact bf (by rw [z]; decide) ⟨v6, bt (by rw [z]) ⟨v6, vp_in_nI cP.1 (by decide), v6, q2⟩⟩
      · rw [show v3 X v i = nI (bld (feB X i v) (xN X i)) by unfold v3; rw [if_neg (by omega), if_neg (by omega)], show plr (xR X i) = 2 from if_neg (by omega)] at q2
        exact bf (fun y => by have := inj31 y (by omega) (by decide); omega) ⟨v6, bf (fun y => by have := inj31 y (by omega) (by decide); omega) ⟨v6, v6, q2⟩⟩
    · rintro M' K2 rfl
      have gM : ∀ j, gi (up M1 (fun c => 17 + plr (xR X c)) (fun c => c) (v3 X v) nc) 0 j = gi M1 0 j := fun j => up_ne nc (fun c hc => Or.inl (by omega))
      unfold wb_X12_captures_29
      rw [gM, c1]
      exact bt (nI_le (by omega) (by omega)) (q M1 f)
theorem hasCX {U : wM} {c r : Nat} {Q : Int32 → wM → Prop} (hc : c < 6) (er : gi U (34 + 3 * c) 2 = nI r) (r4 : r < 4) (q : Q (bI (decide (2 ≤ r))) U) : w_X1_hasCells c U Q := by
  unfold w_X1_hasCells
  rw [er]
  rcases (show r = 0 ∨ r = 1 ∨ r = 2 ∨ r = 3 by omega) with rfl | rfl | rfl | rfl
  · exact ⟨hc, bf (by decide) (bf (by decide) q)⟩
  · exact ⟨hc, bf (by decide) (bf (by decide) q)⟩
  · exact ⟨hc, bt rfl q⟩
  · exact ⟨hc, bf (by decide) (bt rfl q)⟩
theorem Tk_3 {X M : wM} {m d : Bool} {nc nn : Nat} (hN : nc ≤ 6) (eN : gi X 26 3 = nI nc) (h8 : nn ≤ 8) (e5 : gi X 12 0 = nI nn) (h : Inv X M) (es : gi X 26 5 = nI 3) : Tk X M m d 3 (-4) (tl (up X (fun c => 35 + 3 * c) (fun c => plr (xR X c)) (v3 X (lvR X (bld (ownB X nc) 8) nn)) nc) 3 m) := by
  have h1 := hN
  have e1 := eN
  obtain ⟨e2, e6, hc⟩ := Inv_cc h h1 h8 e1 e5
  obtain ⟨-, s2, hs2, f1, f2⟩ := h.2.2.2.2.2.1
  obtain rfl : s2 = 3 := inj31 (f1.symm.trans es) (by omega) (by omega)
  have nf := Inv_nf h h8 e5
  have ol : bld (ownB X nc) 8 < 256 := bld_lt _ 8
  obtain ⟨v8, hv, -⟩ := lvR_bit nf ol
  generalize ev : lvR X (bld (ownB X nc) 8) nn = v at v8 hv
  have hA : ∀ c : Nat, 35 + 3 * c = 34 + 3 * c ∨ 35 + 3 * c = 35 + 3 * c := fun c => Or.inr rfl
  have hR : ∀ c, 15 ≤ 17 + plr (xR X c) ∧ 17 + plr (xR X c) ≤ 21 := fun c => by have := plr_lt (xR X c); omega
  have xo : ∀ j, gi (up X (fun c => 35 + 3 * c) (fun c => plr (xR X c)) (v3 X v) nc) 26 j = gi X 26 j := fun j => up_ne nc (fun c hc => Or.inl (by omega))
  have hk : ∀ M' : wM, Inv X M' → Inv (up X (fun c => 35 + 3 * c) (fun c => plr (xR X c)) (v3 X v) nc) (up M' (fun c => 17 + plr (xR X c)) (fun c => c) (v3 X v) nc) := fun M' h' => Inv_up h' h1 e1 hA hR (fun np2 nn2 c hcc ok => by
    obtain ⟨cP, pr, cr, cL, cN, cO, cI, cR, cW, cT, cU, cB, cD, cC, cA⟩ := hc c hcc
    obtain ⟨r0, r1, r2, r3, r4, r5, r6, r7, r8⟩ := cr
    rcases (show xR X c = 0 ∨ xR X c = 1 ∨ 2 ≤ xR X c by omega) with z | z | z
    · rw [show v3 X v c = nI 0 from if_pos z, show plr (xR X c) = 0 by rw [z]; rfl]
      exact chipOk_br (by omega) ok (by decide)
    · rw [show plr (xR X c) = 1 by rw [z]; rfl]
      exact chipOk_id (by omega) ok
    · rw [show v3 X v c = nI (bld (feB X c v) (xN X c)) by unfold v3; rw [if_neg (by omega), if_neg (by omega)], show plr (xR X c) = 2 from if_neg (by omega)]
      refine chipOk_cr (by omega) ok (fun n g1 g2 => ?_)
      obtain rfl : n = xN X c := inj31 (g1.symm.trans cN.1) (by omega) (by have := pr.2.2.1; omega)
      exact bld_lt _ _)
  refine ⟨fun Q q => ?_, fun Q q => ?_, ⟨_, Inv_tail (m := m) (hk M h) ((xo 5).trans es) (by decide)⟩, Or.inl rfl, by decide, ?_, ?_, FX_tl (FX_up h1 hA)⟩
  · unfold w_X0_step
    rw [es]
    refine bf (by decide) (bf (by decide) (bt rfl (ownX h1 h8 e1 hc (levX nf ol rfl (fun _ => rfl) ?_))))
    rw [ev]
    refine actL h1 e1 es hA (fun i hi Q' q' => ?_) (tailX (by decide) ((xo 5).trans es) q)
    have cf := hc i hi
    obtain ⟨cP, pr, cr, cL, cN, cO, cI, cR, cW, cT, cU, cB, cD, cC, cA⟩ := id cf
    have r1 := cr.2.1
    have gpp : gp (up X (fun c => 35 + 3 * c) (fun c => plr (xR X c)) (v3 X v) i) i = gp X i := up_gp i i
    have g : ∀ a j, 34 + 3 * i ≤ a → gi (up X (fun c => 35 + 3 * c) (fun c => plr (xR X c)) (v3 X v) i) a j = gi X a j := fun a j ha => up_ne i (fun c hc => Or.inl (by omega))
    have er := (g (34 + 3 * i) 2 (Nat.le_refl _)).trans cR.1
    have q2 : Q' (si (up X (fun c => 35 + 3 * c) (fun c => plr (xR X c)) (v3 X v) i) (35 + 3 * i) (plr (xR X i)) (v3 X v i)) := q'
    have p3 := plr_lt (xR X i)
    have v3' : vp_in (nI (plr (xR X i))) 3 := vp_in_nI p3 (by decide)
    refine ⟨by omega, bf (by decide) (bt rfl (regPl (by omega) er r1 (hasCX (by omega) er r1 ?_)))⟩
    rw [nI_clamp (by omega)]
    refine bI_c0 (fun z => ⟨by omega, ?_⟩) (fun z => ftfX h8 cf ⟨gpp, fun j => g _ _ (by omega), fun j => g _ _ (by omega), fun j => g _ _ (by omega)⟩ (by omega) v8 ⟨v3', ?_⟩)
    · have z2 : ¬ 2 ≤ xR X i := of_decide_eq_false z
      rw [er, gpp, g (gp X i) 2 (by omega)]
      rcases (show xR X i = 0 ∨ xR X i = 1 by omega) with y | y
      · rw [show v3 X v i = nI 0 from if_pos y] at q2
        exact bf (by rw [y]; decide) ⟨v3', q2⟩
      · rw [show v3 X v i = gi X (gp X i) 2 by unfold v3; rw [if_neg (by omega), if_pos y]] at q2
        exact bt (by rw [y]) ⟨by rw [cP.2.1]; exact pt_part _ cP.1, v3', q2⟩
    · have z2 : 2 ≤ xR X i := of_decide_eq_true z
      rw [show v3 X v i = nI (bld (feB X i v) (xN X i)) by unfold v3; rw [if_neg (by omega), if_neg (by omega)]] at q2
      exact q2
  · unfold w_X12_ticks1
    rw [f2]
    refine bf (by decide) (bf (by decide) (bt rfl (capM h h1 h8 e1 e5 hv (fun M1 f => ?_))))
    have h' := Inv_s3 h f
    have mo : ∀ j, gi (up M1 (fun c => 17 + plr (xR X c)) (fun c => c) (v3 X v) nc) 0 j = gi M 0 j := fun j => (up_ne nc (fun c hc => Or.inl (by omega))).trans (f 0 j (by decide) (by decide) (by decide))
    refine tickN h1 (by decide) ((mo 22).trans e2) ((mo 33).trans f2) (by decide) (q _ (Inv_tail (m := m) (hk M1 h') ((xo 5).trans es) (by decide)) (FM_tl (FM_trans (fun a j q => f a j (by omega) (by omega) (by omega)) (FM_up hR))))
  · unfold tl
    rw [gi_ne (Or.inr (by decide)), gi_eq]
  · unfold tl
    rw [gi_eq, xo]
/-- every tick: where the class ends does not hang on the reference -/
theorem tks {X : wM} {s : Nat} (h0 : ∃ M, Inv X M) (hs : s < 16) (es : gi X 26 5 = nI s) (m d : Bool) : ∃ (r : Int32) (A : wM), ∀ M, Inv X M → Tk X M m d s r A := by
  obtain ⟨M0, hM⟩ := h0
  obtain ⟨nc, nn, hN, h8, eN, -, e5, -, -⟩ := Inv_cf hM
  by_cases z0 : s = 0
  · subst z0; exact ⟨_, _, fun M h => Tk_0 hN eN h es⟩
  by_cases z3 : s = 3
  · subst z3; exact ⟨_, _, fun M h => Tk_3 hN eN h8 e5 h es⟩
  by_cases z4 : s = 4
  · subst z4; exact ⟨_, _, fun M h => Tk_4 hN eN h es⟩
  by_cases z8 : s = 8
  · subst z8; exact ⟨_, _, fun M h => Tk_8 hN eN h es⟩
  by_cases z10 : s = 10
  · subst z10; exact ⟨_, _, fun M h => Tk_10 hN eN h es⟩
  by_cases z11 : s = 11
  · subst z11; exact ⟨_, _, fun M h => Tk_11 hN eN h es⟩
  by_cases z15 : s = 15
  · subst z15; exact ⟨_, _, fun M h => Tk_15 hN eN h es⟩
  exact ⟨_, _, fun M h => Tk_idle h hs es ⟨z0, z3, z4, z8, z10, z11, z15⟩⟩
