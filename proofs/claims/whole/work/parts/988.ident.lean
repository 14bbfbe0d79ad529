/-! broken, identity -/
theorem jor1 (y r : Int32) {k : Nat} (hk : 1 ≤ k) (hk2 : k < 32) (h : y &&& nI 1 = nI 1) : (y ||| jshl r (nI k)) &&& nI 1 = nI 1 := by
  rw [← h]
  apply Int32.toBitVec_inj.mp
  apply BitVec.eq_of_getLsbD_eq
  intro j hj
  have e : (jshl r (nI k)).toBitVec = r.toBitVec <<< k := by
    unfold jshl
    rw [Int32.toBitVec_shiftLeft, BitVec.shiftLeft_eq', sh_i k hk2]
  rw [Int32.toBitVec_and, Int32.toBitVec_and, Int32.toBitVec_or, BitVec.getLsbD_and, BitVec.getLsbD_and, BitVec.getLsbD_or, one_bit, e, BitVec.getLsbD_shiftLeft]
  by_cases z : j = 0
  · subst z
    rw [decide_eq_true (show 0 < k by omega)]
    simp
  · rw [decide_eq_false z, Bool.and_false, Bool.and_false]
theorem law_broken (Mx Mm : wM) (h : Inv Mx Mm) : w_X11_broken Mx (fun r A => w_X12_broken Mm (fun r2 B => r = r2 ∧ Inv A B)) := by
  obtain ⟨nc, hn, e1, e2⟩ := Inv_sz h
  unfold w_X11_broken
  rw [e1]
  refine bc (fun z => bt (by rw [e2]; exact z) ⟨rfl, h⟩) (fun z => ?_)
  refine resetS ⟨_, h⟩ (fun A1 ex1 fx1 k1 => walkQ ex1 (b := 11) (by decide) (fun n2 A2 ex2 _ fx2 k2 => ?_))
  have e3 : gi A2 26 3 = nI nc := by rw [(FX_trans fx1 fx2).2.1 3 (by decide) (by decide)]; exact e1
  have m2 : ∀ Q' : Int32 → wM → Prop, (∀ B, Inv A2 B → wL_X12_broken_31 Q' (nc + 1) (-4) (pv nc) B) → w_X12_broken Mm Q' := by
    intro Q' q'
    unfold w_X12_broken
    rw [e2]
    refine bf z (k1 Mm h _ (fun B hB _ => k2 B hB _ (fun B' hB' _ => ?_)))
    obtain ⟨nc', hn', g1, g2⟩ := Inv_sz hB'
    obtain rfl : nc = nc' := inj31 (e3.symm.trans g1) (by omega) (by omega)
    rw [g2, pv_n]
    exact ⟨_, q' B' hB'⟩
  rw [e3, pv_n]
  refine loD2 (fun K y1 y M => wb_X6_lastSilentChip_27 K y1 y M _) (fun _ _ _ _ => rfl) nc (fun k y A => (∃ B, Inv A B) ∧ gi A 26 3 = nI nc ∧ ∀ Q' : Int32 → wM → Prop, (∀ B, Inv A B → wL_X12_broken_31 Q' (k + 1) y (pv k) B) → w_X12_broken Mm Q') ?_ ?_ ⟨ex2, e3, m2⟩
  · rintro c y A K hc ⟨ex, a3, ms⟩ kk
    obtain ⟨M0, hM0⟩ := id ex
    obtain ⟨nc', nn, hn', h8, g1, -, g5, -, cfs⟩ := Inv_cf hM0
    obtain rfl : nc = nc' := inj31 (a3.symm.trans g1) (by omega) (by omega)
    have cf := cfs c hc
    obtain ⟨cP, pr, cr, cL, -⟩ := id cf
    have hL := pr.2.1
    have pt : ptX (gp A c) := by rw [cP.2.1]; exact pt_part _ cP.1
    unfold wb_X6_lastSilentChip_27
    rw [nI_clamp (n := c) (by omega), cL.1]
    refine bf (by rw [lt_n (by decide), nI_toInt (by omega)]; omega) ⟨vp_in_nI (by omega) (by decide), pt, ?_⟩
    have m3 : ∀ Q' : Int32 → wM → Prop, (∀ B, Inv A B → wL_X12_broken_40 y (nI c) (wL_X12_broken_31 Q' (c + 1)) Q' (xL A c + 1) (nI 0) (nI 0) B) → w_X12_broken Mm Q' := by
      refine fun Q' q' => ms Q' (fun B hB => ?_)
      show wL_X12_broken_31 Q' (c + 1 + 1) y (pv (c + 1)) B
      rw [pv_s]
      show wb_X12_broken_31 (wL_X12_broken_31 Q' (c + 1)) y (nI c) B Q'
      exact bf (by rw [lt_n (by decide), nI_toInt (by omega)]; omega) ⟨_, q' B hB⟩
    refine lo2 (fun K' y3 y5 M => wb_X6_lastSilentChip_53 y (nI c) (nI (xL A c)) K K' y3 y5 M _) (fun _ _ _ _ => rfl) (xL A c) (fun i v A' => (∃ B, Inv A' B) ∧ FX A A' ∧ ∀ Q' : Int32 → wM → Prop, (∀ B, Inv A' B → wL_X12_broken_40 y (nI c) (wL_X12_broken_31 Q' (c + 1)) Q' (xL A c - i + 1) v (nI i) B) → w_X12_broken Mm Q') ?_ ?_ (Nat.zero_le _) ⟨ex, FX_refl, m3⟩
    · rintro i v A' K' hi ⟨ex', fx', ms'⟩ kk'
      unfold wb_X6_lastSilentChip_53
      rw [nI_add]
      refine bf (nI_ge hi (by omega)) (stq ex' false true (fun r A'' ex'' _ fx'' k => kk' _ _ ⟨ex'', FX_trans fx' fx'', fun Q' q' => ms' Q' (fun B hB => ?_)⟩))
      have a4 : gi A' 26 3 = nI nc := by rw [fx'.2.1 3 (by decide) (by decide)]; exact a3
      have a5 : gi A' 12 0 = nI nn := by rw [fx'.1 12 0 (by decide)]; exact g5
      obtain ⟨b1, b2, b3⟩ := Inv_cc hB hn h8 a4 a5
      obtain ⟨dP, -, -, dL, -⟩ := b3 c hc
      have eL : xL A' c = xL A c := by
        unfold xL
        rw [fx'.2.2 c, fx'.1 (gp A c) 0 (by omega)]
      rw [show xL A c - i + 1 = (xL A c - (i + 1) + 1) + 1 by omega]
      show wb_X12_broken_40 y (nI c) (wL_X12_broken_31 Q' (c + 1)) (wL_X12_broken_40 y (nI c) (wL_X12_broken_31 Q' (c + 1)) Q' (xL A c - (i + 1) + 1)) v (nI i) B Q'
      unfold wb_X12_broken_40
      rw [nI_add, nI_clamp (n := c) (by omega), dP.2.2.2, nI_clamp (n := xP A' c) (by omega), dL.2, eL]
      exact ⟨vp_in_nI (by omega) (by decide), vp_in_nI dP.1 (by decide), bf (nI_ge hi (by omega)) (k B hB _ (fun B' hB' _ => q' B' hB'))⟩
    · rintro v A' K' ⟨ex', fx', ms'⟩
      have a4 : gi A' 26 3 = nI nc := by rw [fx'.2.1 3 (by decide) (by decide)]; exact a3
      have a5 : gi A' 12 0 = nI nn := by rw [fx'.1 12 0 (by decide)]; exact g5
      have eL : xL A' c = xL A c := by
        unfold xL
        rw [fx'.2.2 c, fx'.1 (gp A c) 0 (by omega)]
      have nxt : ∀ y', (∀ Q' : Int32 → wM → Prop, ∀ B, wL_X12_broken_31 Q' (c + 1) y' (pv c) B → ((v = nI 1 → wL_X12_broken_31 Q' (c + 1) y (nI c + (-1)) B) ∧ (¬ v = nI 1 → (y = -4 → wL_X12_broken_31 Q' (c + 1) (nI c) (nI c + (-1)) B) ∧ (¬ y = -4 → wL_X12_broken_31 Q' (c + 1) y (nI c + (-1)) B)))) → K y' (pv c) A' := by
        intro y' hy
        refine kk _ _ ⟨ex', a4, fun Q' q' => ms' Q' (fun B hB => ?_)⟩
        obtain ⟨b1, b2, b3⟩ := Inv_cc hB hn h8 a4 a5
        obtain ⟨dP, -, -, dL, -⟩ := b3 c hc
        rw [Nat.sub_self]
        show wb_X12_broken_40 y (nI c) (wL_X12_broken_31 Q' (c + 1)) _ v (nI (xL A c)) B Q'
        unfold wb_X12_broken_40
        rw [nI_clamp (n := c) (by omega), dP.2.2.2, nI_clamp (n := xP A' c) (by omega), dL.2, eL]
        exact ⟨vp_in_nI (by omega) (by decide), vp_in_nI dP.1 (by decide), bt (nI_le (by omega) (by omega)) (hy Q' B (q' B hB))⟩
      unfold wb_X6_lastSilentChip_53
      refine bt (nI_le (by omega) (by omega)) (bc (fun w => nxt _ (fun Q' B q => bt w q)) (fun w => bc (fun u => nxt _ (fun Q' B q => bf w (bt u q))) (fun u => nxt _ (fun Q' B q => bf w (bf u q)))))
  · rintro y A K ⟨ex, a3, ms⟩
    unfold wb_X6_lastSilentChip_27
    exact bt pv_0 (ms _ (fun B hB => bt pv_0 ⟨rfl, hB⟩))
theorem Inv_ids {A B : wM} {i : Nat} {v w : Int32} (h : Inv A B) : Inv (si (si A 53 i v) 52 2 w) (si B 26 i v) :=
  Inv_fr (T := [52, 53]) (S := [26]) h (sX_trans (sX_si (by simp [cX])) (sX_si (by simp [cX]))) (sM_si (by simp [cM]))
theorem Inv_seen {A B : wM} {w : Int32} (h : Inv A B) : Inv (si A 52 2 w) B :=
  Inv_fr (T := [52]) (S := []) h (sX_si (by simp [cX])) sM_refl
theorem ex_ids {A : wM} {i : Nat} {v w : Int32} (h : ∃ B, Inv A B) : ∃ B, Inv (si (si A 53 i v) 52 2 w) B := by
  obtain ⟨B, hB⟩ := h
  exact ⟨_, Inv_ids (i := i) (v := v) hB⟩
section IDN
variable {x1 : Int32} {Mm : wM} {nc : Nat}
/-- the rest of an identity, in the class; v has its lowest bit -/
theorem restS {A : wM} {Q : Int32 → wM → Prop} {Z : (Int64 → wM → Prop) → Prop} {many : Nat} {KK : (Int64 → wM → Prop) → Int32 → Int32 → wM → Prop} {P : wM → wM → Prop} (ex : ∃ B, Inv A B) (hP : ∀ A' B B', FX A A' → FM B B' → P A B → P A' B') (hP2 : ∀ A' A'' B B', FX A' A'' → FM B B' → P A' B → P A'' B')
    (ms : ∀ Q' : Int64 → wM → Prop, (∀ B, Inv A B → P A B → wL_X12_identity_68 x1 (nI many) (KK Q') Q' (32 - 1 + 1) (nI 1) (nI 1) B) → Z Q')
    (s4 : gi A 26 5 = nI 4)
    (q : ∀ (v : Int32) (A' : wM), (∃ B, Inv A' B) → gi A' 26 5 = nI 4 → FX A A' → (∀ Q' : Int64 → wM → Prop, (∀ B, Inv A' B → P A' B → ((v = -1 → wj_X12_identity_114 x1 (nI many) v (nI 0) (KK Q') B Q') ∧ (¬ v = -1 → wj_X12_identity_114 x1 (nI many) v (nI 1) (KK Q') B Q'))) → Z Q') → Q v A') : w_X6_restOfIdentity A Q := by
  refine lo2 (fun K y1 y M => wb_X6_restOfIdentity_4 K y1 y M Q) (fun _ _ _ _ => rfl) (i0 := 1) 32 (fun i y A' => (∃ B, Inv A' B) ∧ gi A' 26 5 = nI 4 ∧ FX A A' ∧ y &&& nI 1 = nI 1 ∧ 1 ≤ i ∧ ∀ Q' : Int64 → wM → Prop, (∀ B, Inv A' B → P A' B → wL_X12_identity_68 x1 (nI many) (KK Q') Q' (32 - i + 1) y (nI i) B) → Z Q') ?_ ?_ (by decide) ⟨ex, s4, FX_refl, by decide, by decide, ms⟩
  · rintro i y A' K hi ⟨ex', s4', fx, y1, i1, ms'⟩ kk
    unfold wb_X6_restOfIdentity_4
    rw [nI_add]
    refine bf (nI_ge hi (by omega)) (stpS ex' (s := 4) (by decide) s4' false true (fun r A'' ex'' _ _ s5 _ fx'' k => kk _ _ ⟨ex'', s5, FX_trans fx fx'', jor1 _ _ i1 hi y1, by omega, fun Q' q' => ms' Q' (fun B hB pB => ?_)⟩))
    rw [show 32 - i + 1 = (32 - (i + 1) + 1) + 1 by omega]
    show wb_X12_identity_68 x1 (nI many) (KK Q') (wL_X12_identity_68 x1 (nI many) (KK Q') Q' (32 - (i + 1) + 1)) y (nI i) B Q'
    unfold wb_X12_identity_68
    rw [nI_add]
    exact bf (nI_ge hi (by omega)) (bt y1 (k B hB _ (fun B' hB' fB' => q' B' hB' (hP2 _ _ _ _ fx'' fB' pB))))
  · rintro y A' K ⟨ex', s4', fx, y1, i1, ms'⟩
    unfold wb_X6_restOfIdentity_4
    refine bt (nI_le (by omega) (by omega)) (q y A' ex' s4' fx (fun Q' q' => ms' Q' (fun B hB pB => ?_)))
    exact bt (nI_le (by omega) (by omega)) (q' B hB pB)
end IDN
theorem law_identity (x1 : Int32) (Mx Mm : wM) (h : Inv Mx Mm) : w_X11_identity x1 Mx (fun r A => w_X12_identity x1 Mm (fun r2 B => r = r2 ∧ Inv A B)) := by
  obtain ⟨nc, hn, e1, e2⟩ := Inv_sz h
  have main : (x1 = -4 ∨ (¬ x1 = -4 ∧ 0 ≤ x1.toInt ∧ x1.toInt ≤ 7)) → ∀ QX : Int64 → wM → Prop, (∀ r A, wj_X12_identity_22 x1 Mm (fun r2 B => r = r2 ∧ Inv A B) → QX r A) → wj_X11_identity_20 x1 Mx QX := by
    intro hx QX hq
    unfold wj_X11_identity_20
    rw [e1]
    refine bc (fun z => hq _ _ (bt (by rw [e2]; exact z) ⟨rfl, h⟩)) (fun z => ?_)
    -- the end
    have fin : ∀ (i : Nat) (A : wM), i ≤ 8 → gi A 52 2 = nI i → (∀ Q' : Int64 → wM → Prop, (∀ B, Inv A B → (∀ j, j < i → gi B 26 j = gi A 53 j) → wj_X12_identity_133 x1 (nI i) B Q') → wj_X12_identity_22 x1 Mm Q') → ((x1 = (-4) → QX (gi A 52 2).toInt64 A) ∧ (¬ x1 = (-4) → ((gi A 52 2) ≤ x1 → QX (-4) A) ∧ (¬ (gi A 52 2) ≤ x1 → vp_in x1 8 ∧ (QX (gi A 53 x1.toNatClampNeg).toInt64 A)))) := by
      intro i A hi ei ms
      rw [ei]
      refine bc (fun y => hq _ _ (ms _ (fun B hB _ => bt y ⟨rfl, hB⟩))) (fun y => bc (fun w => hq _ _ (ms _ (fun B hB _ => bf y (bt w ⟨rfl, hB⟩)))) (fun w => ?_))
      have hx2 := hx.resolve_left y
      obtain ⟨k, hk, rfl, ek⟩ := nI_ex (x := x1) (by omega)
      have w2 := w
      rw [n_le (by omega)] at w2
      have v8 : vp_in (nI k) 8 := vp_in_nI (by omega) (by decide)
      refine ⟨v8, hq _ _ (ms _ (fun B hB g => bf y (bf w ⟨v8, ?_, hB⟩)))⟩
      rw [nI_clamp hk, g k (by omega)]
    refine resetS ⟨_, h⟩ (fun A1 ex1 fx1 k1 => walkQ ex1 (b := 4) (by decide) (fun n2 A2 ex2 s2 fx2 k2 => ?_))
    have m2 : ∀ Q' : Int64 → wM → Prop, (∀ B, Inv (si A2 52 2 (nI 0)) B → (∀ j, j < 0 → gi B 26 j = gi (si A2 52 2 (nI 0)) 53 j) → wL_X12_identity_47 x1 Q' (8 - 0 + 1) (nI 0) (nI 1) B) → wj_X12_identity_22 x1 Mm Q' := by
      intro Q' q'
      unfold wj_X12_identity_22
      rw [e2]
      exact bf z (k1 Mm h _ (fun B hB _ => k2 B hB _ (fun B' hB' _ => ⟨_, q' B' (Inv_seen hB') (fun j hj => by omega)⟩)))
    refine lo1 (fun K y M => wb_X6_readIdentities_20 K y M _) (fun _ _ _ => rfl) 8 (fun i A => (∃ B, Inv A B) ∧ gi A 26 5 = nI 4 ∧ gi A 52 2 = nI i ∧ ∀ Q' : Int64 → wM → Prop, (∀ B, Inv A B → (∀ j, j < i → gi B 26 j = gi A 53 j) → wL_X12_identity_47 x1 Q' (8 - i + 1) (nI i) (nI 1) B) → wj_X12_identity_22 x1 Mm Q') ?_ ?_ (Nat.zero_le _) ⟨?_, ?_, gi_eq .., m2⟩
    · rintro i A K hi ⟨ex, s4, e52, ms⟩ kk
      have v8 : vp_in (nI i) 8 := vp_in_nI hi (by decide)
      -- a value read: v
      have put : ∀ (v : Int32) (A' : wM), (∃ B, Inv A' B) → gi A' 26 5 = nI 4 → FX A A' → (∀ Q' : Int64 → wM → Prop, (∀ B, Inv A' B → (∀ j, j < i → gi B 26 j = gi A' 53 j) → ((v = -1 → wj_X12_identity_114 x1 (nI i) v (nI 0) (wL_X12_identity_47 x1 Q' (8 - (i + 1) + 1)) B Q') ∧ (¬ v = -1 → wj_X12_identity_114 x1 (nI i) v (nI 1) (wL_X12_identity_47 x1 Q' (8 - (i + 1) + 1)) B Q'))) → wj_X12_identity_22 x1 Mm Q') → wj_X6_readIdentities_47 (nI i) v K A' (fun M4 => (x1 = (-4) → QX (gi M4 52 2).toInt64 M4) ∧ (¬ x1 = (-4) → ((gi M4 52 2) ≤ x1 → QX (-4) M4) ∧ (¬ (gi M4 52 2) ≤ x1 → vp_in x1 8 ∧ (QX (gi M4 53 x1.toNatClampNeg).toInt64 M4)))) := by
        intro v A' ex' s4' fx' ms'
        have e52' : gi A' 52 2 = nI i := (fx'.1 52 2 (by decide)).trans e52
        unfold wj_X6_readIdentities_47
        rw [nI_add, nI_clamp (n := i) (by omega), e52', nI_add]
        refine bc (fun y => fin i A' (by omega) e52' (fun Q' q' => ms' Q' (fun B hB g => bt y (bt rfl ?_)))) (fun y => ⟨v8, kk _ ⟨ex_ids ex', ?_, gi_eq .., fun Q' q' => ms' Q' (fun B hB g => bf y (bf ne10 ⟨v8, ?_⟩))⟩⟩)
        · show wb_X12_identity_47 x1 _ (nI i) (nI 0) B Q'
          exact bt rfl (q' B hB g)
        · rw [gi_ne (Or.inl (by decide)), gi_ne (Or.inl (by decide))]; exact s4'
        · rw [nI_add, nI_clamp (n := i) (by omega)]
          refine q' _ (Inv_ids hB) (fun j hj => ?_)
          by_cases w : j = i
          · subst w
            rw [gi_eq, gi_ne (Or.inl (by decide)), gi_eq]
          · rw [gi_ne (Or.inr w), gi_ne (Or.inl (by decide)), gi_ne (Or.inr w)]
            exact g j (by omega)
      unfold wb_X6_readIdentities_20
      refine bf (nI_ge hi (by omega)) (stpS ex (s := 4) (by decide) s4 false true (fun r A' ex' hr hr2 s5 _ fx' k => ?_))
      have ms1 : ∀ Q' : Int64 → wM → Prop, (∀ B, Inv A' B → (∀ j, j < i → gi B 26 j = gi A' 53 j) → wL_X12_identity_68 x1 (nI i) (wL_X12_identity_47 x1 Q' (8 - (i + 1) + 1)) Q' (32 - 1 + 1) r (nI 1) B) → wj_X12_identity_22 x1 Mm Q' := by
        refine fun Q' q' => ms Q' (fun B hB g => ?_)
        rw [show 8 - i + 1 = (8 - (i + 1) + 1) + 1 by omega]
        show wb_X12_identity_47 x1 (wL_X12_identity_47 x1 Q' (8 - (i + 1) + 1)) (nI i) (nI 1) B Q'
        refine bf ne10 (bf (nI_ge hi (by omega)) (k B hB _ (fun B' hB' fB' => ⟨_, q' B' hB' (fun j hj => ?_)⟩)))
        rw [fB' 26 j (by omega), fx'.1 53 j (by omega)]
        exact g j hj
      refine bc (fun y => ?_) (fun y => ?_)
      · subst y
        refine restS (P := fun A' B => ∀ j, j < i → gi B 26 j = gi A' 53 j) (KK := fun Q' => wL_X12_identity_47 x1 Q' (8 - (i + 1) + 1)) (Z := fun Q' => wj_X12_identity_22 x1 Mm Q') ex' (fun A'' B B' f1 f2 p j hj => ?_) (fun A2 A3 B B' f1 f2 p j hj => ?_) ms1 s5 (fun v A'' ex'' s6 fx'' ms2 => put v A'' ex'' s6 (FX_trans fx' fx'') ms2)
        · rw [f2 26 j (by omega), f1.1 53 j (by omega)]; exact p j hj
        · rw [f2 26 j (by omega), f1.1 53 j (by omega)]; exact p j hj
      · have r0 : r = nI 0 := by
          rcases hr with w | w | w
          · exact absurd w (hr2 (Or.inl rfl))
          · exact w
          · exact absurd w y
        subst r0
        refine put (nI 0) A' ex' s5 fx' (fun Q' q' => ms1 Q' (fun B hB g => ?_))
        show wb_X12_identity_68 x1 (nI i) _ _ (nI 0) (nI 1) B Q'
        exact bf (by decide) (bf (by decide) (q' B hB g))
    · rintro A K ⟨ex, s4, e52, ms⟩
      unfold wb_X6_readIdentities_20
      refine bt (nI_le (by omega) (by omega)) (fin 8 A (by omega) e52 (fun Q' q' => ms Q' (fun B hB g => ?_)))
      show wb_X12_identity_47 x1 _ (nI 8) (nI 1) B Q'
      exact bf ne10 (bt (nI_le (by omega) (by omega)) (q' B hB g))
    · obtain ⟨B, hB⟩ := ex2
      exact ⟨B, Inv_seen hB⟩
    · rw [gi_ne (Or.inl (by decide))]; exact s2
  unfold w_X11_identity w_X12_identity
  refine bc (fun y => main (Or.inl y) _ (fun r A w => bt y w)) (fun y => ?_)
  by_cases c : 0 ≤ x1.toInt ∧ x1.toInt ≤ 7
  · exact bf (by rw [lt_n (by decide)]; omega) (bt (by rw [lt_n (by decide)]; omega) (main (Or.inr ⟨y, c⟩) _ (fun r A w => bf y (in_t (by decide) (hi_N (by decide)) c (bf ne10 w)))))
  · have w : ∀ P : Int32 → wM → Prop, P (nI 0) Mm → w_X12_in x1.toInt64 (lN 0) (lN 7) Mm P := fun P p => in_f (by decide) (hi_N (by decide)) c p
    refine bc (fun z => bf y (w _ (bt rfl ⟨rfl, h⟩))) (fun z => bf (fun u => ?_) (bf y (w _ (bt rfl ⟨rfl, h⟩))))
    rw [lt_n (by decide)] at z
    rw [lt_n (by decide)] at u
    omega
