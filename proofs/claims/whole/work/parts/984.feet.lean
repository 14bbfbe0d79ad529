/-! the level of a net, in the reference; the feet of a chip -/
theorem ia_M : (iaM 28 ∧ lnM 28 = 64 ∧ iaM 27 ∧ lnM 27 = 8) ∧ iaM 31 ∧ lnM 31 = 64 ∧ iaM 32 ∧ lnM 32 = 8 := by
  unfold iaM
  decide
def fr2 (M M' : wM) : Prop := ∀ x j, x ≠ 29 → x ≠ 30 → gi M' x j = gi M x j
theorem Inv_sc {X M M' : wM} (h : Inv X M) (f : fr2 M M') : Inv X M' :=
  Inv_fr (T := []) (S := [29, 30]) h sX_refl (fun a j q => f a j (fun z => q (by rw [z]; simp [cM])) (fun z => q (by rw [z]; simp [cM])))
theorem sh_eg {x m : Int32} (h : shR x m) : (¬ m = nI 0 ↔ x ≠ -4) ∧ (m &&& nI 1 = nI 1 ↔ x = nI 0) := by
  rcases h with ⟨rfl, rfl⟩ | ⟨rfl, rfl⟩ | ⟨rfl, rfl⟩
  · constructor
    · constructor
      · intro h; exact absurd rfl h
      · intro h; exact absurd rfl h
    · decide
  · decide
  · decide
theorem togM {X M : wM} {nn : Nat} {Q : wM → Prop} (h : Inv X M) (h8 : nn ≤ 8) (e : gi X 12 0 = nI nn) (q : ∀ M' : wM, fr2 M M' → (∀ a, a < nn → ∃ mk r, HX X nn a mk r ∧ gi M' 29 a = nI mk ∧ gi M' 30 a = nI (md r)) → Q M') : w_X12_findTogether 28 27 M Q := by
  obtain ⟨n1, g1, g2, g3, g4, g5, g6, g7⟩ := h.2.2.2.2.2.2.2.1
  obtain rfl : n1 = nn := inj31 (g2.symm.trans e) (by omega) (by omega)
  obtain ⟨⟨i1, l1, i2, l2⟩, -⟩ := ia_M
  refine ftM (by decide) i1 l1 i2 l2 h8 g3 (fun a ha => by rw [← (g4 a ha).1]; exact (g4 a ha).2) (fun M' f g => q M' f (fun a ha => ?_))
  obtain ⟨mk, r, hp, r1, r2⟩ := g a ha
  refine ⟨mk, r, HP_congr (fun x y hx hy => (sh_eg (g6 x y hx hy).1).1) (fun x hx => ?_) (fun x hx => (g4 x hx).1.symm) hp, r1, r2⟩
  constructor
  · rintro ⟨c, c1, c2⟩
    exact ⟨c, c1, (sh_eg (g6 x c hx c1).1).2.mp c2⟩
  · rintro ⟨c, c1, c2⟩
    exact ⟨c, c1, (sh_eg (g6 x c hx c1).1).2.mpr c2⟩
theorem levNowM {X M : wM} {nc nn j v : Nat} {Q : Int32 → wM → Prop} (h : Inv X M) (h1 : nc ≤ 6) (h8 : nn ≤ 8) (e1 : gi X 26 3 = nI nc) (e : gi X 12 0 = nI nn) (hj : j < nn) (hv : ∀ j, j < nn → ∀ mk r, HX X nn j mk r → v.testBit j = upB mk r (bld (ownB X nc) 8)) (q : ∀ M' : wM, fr2 M M' → Q (bI (v.testBit j)) M') : w_X12_levelNow (nI j) M Q := by
  have b8 := p8 h8
  unfold w_X12_levelNow
  refine togM h h8 e (fun M' f g => ?_)
  obtain ⟨mk, r, hp, r1, r2⟩ := g j hj
  obtain ⟨c1, c2, c3⟩ := Inv_cc (Inv_sc h f) h1 h8 e1 e
  have v8 : vp_in (nI j) 8 := vp_in_nI (by omega) (by decide)
  have hm := hp.1
  refine ⟨v8, v8, allOwnM h1 h8 c1 c2 c3 ?_⟩
  rw [nI_clamp (by omega), r1, r2]
  have ol := bld_lt (ownB X nc) nn
  refine levelByM (by omega) (by omega) hp.2.2.1 ?_
  rw [upB_congr (b := bld (ownB X nc) 8) (and_congr hm (fun i hi => by rw [bld_bit, bld_bit, decide_eq_true hi, decide_eq_true (show i < 8 by omega)])), ← hv j hj mk r hp]
  exact q M' f
def hgB (X : wM) (c v i : Nat) : Bool := decide (gi X (36 + 3 * c) i = -4) || v.testBit (gi X (36 + 3 * c) i).toNatClampNeg
def feB (X : wM) (c v i : Nat) : Bool := if (xO X c).testBit i = true then (!(xU X c).testBit i && drB X c i) else ((xU X c).testBit i || hgB X c v i)
theorem ftfM {X M : wM} {nc nn c v : Nat} {Q : Int32 → wM → Prop} (h : Inv X M) (h1 : nc ≤ 6) (h8 : nn ≤ 8) (e1 : gi X 26 3 = nI nc) (e : gi X 12 0 = nI nn) (hcc : c < nc) (hv : ∀ j, j < nn → ∀ mk r, HX X nn j mk r → v.testBit j = upB mk r (bld (ownB X nc) 8)) (q : ∀ M' : wM, fr2 M M' → Q (nI (bld (feB X c v) (xN X c))) M') : w_X12_feetOf (nI c) M Q := by
  refine lo2 (fun K y2 y3 M => wb_X12_feetOf_4 (nI c) K y2 y3 M Q) (fun _ _ _ _ => rfl) (xN X c) (fun i y M' => fr2 M M' ∧ y = nI (bld (feB X c v) i)) ?_ ?_ (Nat.zero_le _) ⟨fun _ _ _ _ => rfl, rfl⟩
  · rintro i y M' K hi ⟨f, rfl⟩ kk
    have h' := Inv_sc h f
    have cf := (Inv_cc h' h1 h8 e1 e).2.2 c hcc
    have b := cf_b cf
    obtain ⟨cP, pr, cr, cL, cN, cO, cI, cR, cW, cT, cU, cB, cD, cC, cA⟩ := id cf
    have hb := bld_lt (feB X c v) i
    have p1 := p10 (n := i) (by omega)
    unfold wb_X12_feetOf_4
    rw [nI_clamp (n := c) (by omega), cP.2.2.2, nI_clamp (n := xP X c) (by omega), cN.2, nI_mul, nI_add, nI_clamp (n := 10 * c + i) (by omega), (cA i (by omega)).1]
    refine ⟨vp_in_nI (by omega) (by decide), vp_in_nI cP.1 (by decide), bf (nI_ge hi (by omega)) ⟨vp_in_nI (by omega) (by decide), ?_⟩⟩
    refine isOutM cf (by omega) (by omega) (bI_c0 (fun z1 => isOpenM cf (by omega) (by omega) (bI_c0 (fun z2 => bc (fun w => ?_) (fun w => ?_)) (fun z2 => ?_))) (fun z1 => isOpenM cf (by omega) (by omega) (bI_c0 (fun z2 => drivesM cf (by omega) (by omega) ?_) (fun z2 => ?_))))
    · unfold wj_X12_feetOf_79
      rw [nI_add]
      exact kk _ _ ⟨f, bld_t (by omega) (by unfold feB hgB; rw [z1, z2, decide_eq_true w]; rfl)⟩
    · obtain ⟨k, k1, k2, k3⟩ := net_ex h8 cf (by omega) w
      rw [k3]
      refine levNowM (v := v) h' h1 h8 e1 e k1 hv (fun M2 f2 => ?_)
      rw [nI_add]
      refine kk _ _ ⟨fun x j q1 q2 => (f2 x j q1 q2).trans (f x j q1 q2), ?_⟩
      have : v.testBit k = feB X c v i := by
        unfold feB hgB
        rw [z1, z2, k3, decide_eq_false (n4_ne (by omega)), nI_clamp (by omega)]
        rfl
      rw [this]
      exact bld_or (by omega)
    · unfold wj_X12_feetOf_79
      rw [nI_add]
      exact kk _ _ ⟨f, bld_t (by omega) (by unfold feB; rw [z1, z2]; rfl)⟩
    · rw [nI_add]
      refine kk _ _ ⟨f, ?_⟩
      have : drB X c i = feB X c v i := by
        unfold feB
        rw [z1, z2]
        rfl
      rw [this]
      exact bld_or (by omega)
    · rw [nI_add]
      refine kk _ _ ⟨f, ?_⟩
      have : nI 0 = bI (feB X c v i) := by
        unfold feB
        rw [z1, z2]
        rfl
      rw [this]
      exact bld_or (by omega)
  · rintro y M' K ⟨f, rfl⟩
    have h' := Inv_sc h f
    have cf := (Inv_cc h' h1 h8 e1 e).2.2 c hcc
    have b := cf_b cf
    obtain ⟨cP, pr, cr, cL, cN, cO, cI, cR, cW, cT, cU, cB, cD, cC, cA⟩ := id cf
    unfold wb_X12_feetOf_4
    rw [nI_clamp (n := c) (by omega), cP.2.2.2, nI_clamp (n := xP X c) (by omega), cN.2]
    exact ⟨vp_in_nI (by omega) (by decide), vp_in_nI cP.1 (by decide), bt (nI_le (by omega) (by omega)) (q M' f)⟩
/-- U has what chip c of X has -/
def agr (U X : wM) (c : Nat) : Prop := gp U c = gp X c ∧ (∀ j, gi U (34 + 3 * c) j = gi X (34 + 3 * c) j) ∧ (∀ j, gi U (36 + 3 * c) j = gi X (36 + 3 * c) j) ∧ ∀ j, gi U (gp X c) j = gi X (gp X c) j
theorem drivenU {U X M : wM} {nn c : Nat} {Q : Int32 → wM → Prop} (h : CF X M nn c) (a : agr U X c) (hc : c < 6) (q : Q (nI (dvN X c)) U) : w_X1_driven c U Q := by
  have b := cf_b h
  obtain ⟨cP, pr, cr, cL, cN, cO, cI, cR, cW, cT, cU, cB, cD, cC, cA⟩ := id h
  unfold w_X1_driven
  rw [a.2.1, a.2.1, a.2.1, cR.1, cT.1, cU.1, nI_andn (by omega) (by omega)]
  unfold dvN at q
  by_cases z : xR X c = 3
  · rw [if_pos z] at q
    exact ⟨hc, bt (by rw [z]) q⟩
  · rw [if_neg z] at q
    exact ⟨hc, bf (fun y => z (inj31 y (by omega) (by decide))) q⟩
theorem ftfX {U X M : wM} {nn c v : Nat} {Q : Int32 → wM → Prop} (h8 : nn ≤ 8) (h : CF X M nn c) (a : agr U X c) (hc : c < 6) (v8 : v < 256) (q : Q (nI (bld (feB X c v) (xN X c))) U) : w_X1_feet c (nI v) U Q := by
  have b := cf_b h
  have dl := dvN_lt h
  obtain ⟨cP, pr, cr, cL, cN, cO, cI, cR, cW, cT, cU, cB, cD, cC, cA⟩ := id h
  obtain ⟨r0, r1, r2, r3, r4, r5, r6, r7, r8⟩ := id cr
  unfold w_X1_feet
  rw [a.2.1, cU.1]
  refine ⟨hc, lo2 (fun K y2 y3 M => wb_X1_feet_7 c (nI v) K y2 y3 M Q) (fun _ _ _ _ => rfl) 10 (fun i y M' => M' = U ∧ ∃ w, y = nI w ∧ w < 1024 ∧ ∀ t, w.testBit t = ((xU X c).testBit t || (decide (t < i) && hgB X c v t))) ?_ ?_ (Nat.zero_le _) ⟨rfl, _, rfl, b.2.1, fun t => by rw [decide_eq_false (show ¬ t < 0 by omega), Bool.false_and, Bool.or_false]⟩⟩
  · rintro i y M' K hi ⟨rfl, w, rfl, w8, hw⟩ kk
    have v10 : vp_in (nI i) 10 := vp_in_nI hi (by decide)
    have i8 : 2 ^ i < 1024 := Nat.lt_of_lt_of_le (Nat.pow_lt_pow_right (by decide) hi) (by decide)
    have st : ∀ t, (decide (t < i + 1) && hgB X c v t) = ((decide (t < i) && hgB X c v t) || (decide (i = t) && hgB X c v i)) := by
      intro t
      by_cases y : t = i
      · subst y
        rw [decide_eq_true (show t < t + 1 by omega), decide_eq_false (show ¬ t < t by omega), decide_eq_true (rfl : t = t)]
        rfl
      · rw [decide_eq_false (show ¬ i = t from fun x => y x.symm), Bool.false_and, Bool.or_false]
        by_cases x : t < i
        · rw [decide_eq_true x, decide_eq_true (show t < i + 1 by omega)]
        · rw [decide_eq_false x, decide_eq_false (show ¬ t < i + 1 by omega)]
    have up : hgB X c v i = true → ∃ w', nI w ||| jshl (nI 1) (nI i) = nI w' ∧ w' < 1024 ∧ ∀ t, w'.testBit t = ((xU X c).testBit t || (decide (t < i + 1) && hgB X c v t)) := by
      intro z
      rw [bshl1 (by omega), nI_or (by omega) (by omega)]
      refine ⟨_, rfl, Nat.or_lt_two_pow (n := 10) w8 i8, fun t => ?_⟩
      rw [Nat.testBit_or, hw, Nat.testBit_two_pow, st, z, Bool.and_true, Bool.or_assoc]
    have dn : hgB X c v i = false → ∀ t, w.testBit t = ((xU X c).testBit t || (decide (t < i + 1) && hgB X c v t)) := by
      intro z t
      rw [hw, st, z, Bool.and_false, Bool.or_false]
    unfold wb_X1_feet_7
    rw [nI_clamp (n := i) (by omega), a.2.2.1, nI_add]
    refine bf (nI_ge hi (by omega)) ⟨v10, bc (fun z => ?_) (fun z => ⟨v10, ?_⟩)⟩
    · obtain ⟨w', e, l, t⟩ := up (by unfold hgB; rw [decide_eq_true z]; rfl)
      rw [e]
      exact kk _ _ ⟨rfl, w', rfl, l, t⟩
    · obtain ⟨k, k1, k2, k3⟩ := net_ex h8 h hi z
      have eh : hgB X c v i = v.testBit k := by
        unfold hgB
        rw [k3, decide_eq_false (n4_ne (by omega)), nI_clamp (by omega)]
        rfl
      rw [k3]
      refine bit_w (by omega) (by omega) (bI_c (fun y => ?_) (fun y => ?_))
      · obtain ⟨w', e, l, t⟩ := up (eh.trans y)
        rw [e]
        exact kk _ _ ⟨rfl, w', rfl, l, t⟩
      · exact kk _ _ ⟨rfl, w, rfl, w8, dn (eh.trans y)⟩
  · rintro y M' K ⟨rfl, w, rfl, w8, hw⟩
    have b10 := p10 b.2.2.2.2.1
    have b1 : 1 ≤ 2 ^ xN X c := Nat.one_le_two_pow
    have pt : ptX (gp X c) := by rw [cP.2.1]; exact pt_part _ cP.1
    have il : (2 ^ xN X c - 1) &&& (2 ^ 32 - 1 - xO X c) < 1024 := Nat.lt_of_le_of_lt Nat.and_le_left (by omega)
    have wl : w &&& ((2 ^ xN X c - 1) &&& (2 ^ 32 - 1 - xO X c)) < 1024 := Nat.lt_of_le_of_lt Nat.and_le_left w8
    unfold wb_X1_feet_7
    rw [a.1, a.2.2.2, a.2.2.2, cN.1, cO.1, bshl1 (by omega), pk_sub b1, nI_andn (by omega) (by omega), nI_and (by omega) (by omega)]
    refine bt (nI_le (by omega) (by omega)) ⟨pt, pt, drivenU h a hc ?_⟩
    rw [nI_or (by omega) (by omega)]
    have ee : dvN X c ||| (w &&& ((2 ^ xN X c - 1) &&& (2 ^ 32 - 1 - xO X c))) = bld (feB X c v) (xN X c) := by
      apply Nat.eq_of_testBit_eq
      intro i
      have lat0 : (xO X c).testBit i = false → drB X c i = false := by
        intro z
        have := congrArg (fun u => Nat.testBit u i) r5
        rw [Nat.testBit_and, z, Bool.and_false] at this
        unfold drB
        rw [← this, Bool.and_false]
      rw [Nat.testBit_or, Nat.testBit_and, andn_bit (by omega) (by omega), Nat.testBit_two_pow_sub_one, hw, dvN_bit h, bld_bit]
      unfold feB
      rcases Nat.lt_or_ge i (xN X c) with z | z
      · rw [decide_eq_true z, decide_eq_true (show i < 10 by omega)]
        cases y : (xO X c).testBit i
        · rw [lat0 y, if_neg (by decide)]
          cases (xU X c).testBit i <;> cases hgB X c v i <;> rfl
        · rw [if_pos rfl]
          cases (xU X c).testBit i <;> cases hgB X c v i <;> cases drB X c i <;> rfl
      · have zo : (xO X c).testBit i = false := Nat.testBit_lt_two_pow (Nat.lt_of_lt_of_le r0.2.2.2 (Nat.pow_le_pow_right (by decide) z))
        rw [lat0 zo, decide_eq_false (show ¬ i < xN X c by omega)]
        simp
    rw [ee]
    exact q
