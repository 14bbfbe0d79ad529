/-! runs of ticks: tick, go, ticks -/
theorem stpS {X : wM} {s : Nat} {Q : Int32 → wM → Prop} (h0 : ∃ M, Inv X M) (hs : s < 16) (es : gi X 26 5 = nI s) (m d : Bool)
    (q : ∀ (r : Int32) (A : wM), (∃ B, Inv A B) → (r = -4 ∨ r = nI 0 ∨ r = nI 1) → (s = 4 ∨ s = 11 → r ≠ -4) → gi A 26 5 = nI (nx s m) → gi A 26 6 = gi X 26 6 + nI 1 → FX X A → (∀ M, Inv X M → ∀ Q' : Int32 → wM → Prop, (∀ B, Inv A B → FM M B → Q' r B) → w_X12_ticks1 (bI m) (bI d) M Q') → Q r A) : w_X0_step (bI m) (bI d) X Q := by
  obtain ⟨r, A, k⟩ := tks h0 hs es m d
  obtain ⟨M0, hM⟩ := h0
  obtain ⟨k1, -, k3, k4, k5, k6, k7, k8⟩ := k M0 hM
  exact k1 Q (q r A k3 k4 k5 k6 k7 k8 (fun M h => (k M h).2.1))
theorem Inv_st {X M : wM} (h : Inv X M) : ∃ s : Nat, s < 16 ∧ gi X 26 5 = nI s ∧ gi M 0 33 = nI s := by
  obtain ⟨-, s, hs, f1, f2⟩ := h.2.2.2.2.2.1
  exact ⟨s, hs, f1, f2⟩
theorem Inv_sz {X M : wM} (h : Inv X M) : ∃ nc : Nat, nc ≤ 6 ∧ gi X 26 3 = nI nc ∧ gi M 0 22 = nI nc := by
  obtain ⟨nc, nn, h1, -, e1, e2, -⟩ := Inv_cf h
  exact ⟨nc, h1, e1, e2⟩
theorem law_tick (x1 x2 : Int32) (Mx Mm : wM) (h : Inv Mx Mm) (b1 : x1 = nI 0 ∨ x1 = nI 1) (b2 : x2 = nI 0 ∨ x2 = nI 1) : w_X11_tick x1 x2 Mx (fun r A => w_X12_tick x1 x2 Mm (fun r2 B => r = r2 ∧ Inv A B)) := by
  obtain ⟨nc, hn, e1, e2⟩ := Inv_sz h
  obtain ⟨s, hs, f1, f2⟩ := Inv_st h
  obtain ⟨m, rfl⟩ : ∃ m : Bool, x1 = bI m := b1.elim (fun z => ⟨false, z⟩) (fun z => ⟨true, z⟩)
  obtain ⟨d, rfl⟩ : ∃ m : Bool, x2 = bI m := b2.elim (fun z => ⟨false, z⟩) (fun z => ⟨true, z⟩)
  unfold w_X11_tick w_X12_tick
  rw [e1, e2]
  refine bc (fun z => bt z ⟨rfl, h⟩) (fun z => stpS ⟨_, h⟩ hs f1 m d (fun r A _ _ _ _ _ _ k => bf z ?_))
  have w := k Mm h (fun r2 B => r = r2 ∧ Inv A B) (fun B hB _ => ⟨rfl, hB⟩)
  cases d
  · exact bt rfl w
  · exact bf ne10 w
theorem FM_o36 {M B : wM} (h : o36 M B) : FM M B := fun a j q => h a j (by omega)
theorem FX_o28 {X A : wM} (h : o28 X A) : FX X A := ⟨fun a j q => h.1 a j (by omega) (by omega), fun j _ _ => h.1 26 j (by decide) (by decide), h.2⟩
theorem walkS {X : wM} {s b : Nat} {Q : Int32 → wM → Prop} (h0 : ∃ M, Inv X M) (hs : s < 16) (es : gi X 26 5 = nI s) (hb : b < 16)
    (q : ∀ A : wM, (∃ B, Inv A B) → gi A 26 5 = nI b → gi A 26 6 = gi X 26 6 + nI (pthL s b) → FX X A → (∀ M, Inv X M → ∀ Q' : Int32 → wM → Prop, (∀ B, Inv A B → FM M B → Q' (nI (pthL s b)) B) → w_X12_goesTo (nI b) M Q') → Q (nI (pthL s b)) A) : w_X0_walk (nI b) X Q := by
  obtain ⟨p1, p2, p3, p4⟩ := pth_ok b hb s hs
  have pw := (pth_way b hb s hs).1
  have p5 : 2 ^ pthL s b ≤ 256 := p8 p3
  refine aimX hb (fun X' r o => ?_)
  have e5 : gi X' 26 5 = nI s := (o.1 26 5 (by decide) (by decide)).trans es
  rw [e5, nI_clamp (by omega), (r.2.2 s hs).1, (r.2.2 s hs).2, p1, p2]
  refine ⟨vp_in_nI hs (by decide), vp_in_nI hs (by decide), ?_⟩
  refine lo1 (fun K y M => wb_X0_walk_37 (nI (pthL s b)) (nI (pthB s b)) K y M Q) (fun _ _ _ => rfl) (pthL s b) (fun i A => (∃ B, Inv A B) ∧ gi A 26 5 = nI (gW s (pthB s b) i) ∧ gi A 26 6 = gi X 26 6 + nI i ∧ FX X A ∧ ∀ M, Inv X M → ∀ Q' : Int32 → wM → Prop, (∀ B, Inv A B → FM M B → wL_X12_goesTo_22 (nI (pthL s b)) (nI (pthB s b)) Q' (pthL s b - i + 1) (nI i) B) → w_X12_goesTo (nI b) M Q') ?_ ?_ (Nat.zero_le _) ?_
  · rintro i A K hi ⟨ex, a5, a6, fx, ms⟩ kk
    unfold wb_X0_walk_37
    rw [nI_add]
    refine bf (nI_ge hi (by omega)) (bit_w (by omega) (by omega) ?_)
    have st : ∀ m : Bool, (pthB s b).testBit i = m → w_X0_step (bI m) (bI true) A (fun r9 M10 => K (nI (i + 1)) M10) := by
      intro m hm
      refine stpS ex (gW_lt hs i) a5 m true (fun r A' ex' _ _ a5' a6' fx' k => kk A' ⟨ex', ?_, ?_, FX_trans fx fx', fun M hM Q' q' => ?_⟩)
      · rw [a5', ← hm]; rfl
      · rw [a6', a6, Int32.add_assoc, nI_add]
      · refine ms M hM Q' (fun B hB fB => ?_)
        rw [show pthL s b - i + 1 = (pthL s b - (i + 1) + 1) + 1 by omega]
        show wb_X12_goesTo_22 (nI (pthL s b)) (nI (pthB s b)) (wL_X12_goesTo_22 (nI (pthL s b)) (nI (pthB s b)) Q' (pthL s b - (i + 1) + 1)) (nI i) B Q'
        unfold wb_X12_goesTo_22
        rw [nI_add, bitM (by omega) (by omega), hm]
        refine bf (nI_ge hi (by omega)) ?_
        have w := k B hB (fun r5 M6 => wL_X12_goesTo_22 (nI (pthL s b)) (nI (pthB s b)) Q' (pthL s b - (i + 1) + 1) (nI (i + 1)) M6) (fun B' hB' fB' => q' B' hB' (FM_trans fB fB'))
        cases m
        · exact bf (by decide) w
        · exact bt rfl w
    cases hm : (pthB s b).testBit i
    · exact bf (by decide) (st false hm)
    · exact bt rfl (st true hm)
  · rintro A K ⟨ex, a5, a6, fx, ms⟩
    unfold wb_X0_walk_37
    refine bt (nI_le (by omega) (by omega)) (q A ex (by rw [a5, pw]) a6 fx (fun M hM Q' q' => ms M hM Q' (fun B hB fB => ?_)))
    rw [Nat.sub_self]
    show wb_X12_goesTo_22 (nI (pthL s b)) (nI (pthB s b)) _ (nI (pthL s b)) B Q'
    exact bt (nI_le (by omega) (by omega)) (q' B hB fB)
  · refine ⟨?_, e5, ?_, FX_o28 o, fun M hM Q' q' => ?_⟩
    · obtain ⟨M, hM⟩ := h0
      exact ⟨M, Inv_path hM o o36_refl⟩
    · rw [o.1 26 6 (by decide) (by decide), show nI 0 = (0 : Int32) from rfl, Int32.add_zero]
    · unfold w_X12_goesTo
      obtain ⟨s', hs', g1, g2⟩ := Inv_st hM
      obtain rfl : s' = s := inj31 (g1.symm.trans es) (by omega) (by omega)
      rw [g2]
      refine findM hs hb (fun M2 o2 l2 b2 => ?_)
      rw [l2, b2]
      exact ⟨_, q' M2 (Inv_path hM o o2) (FM_o36 o2)⟩
theorem law_go (x1 : Int32) (Mx Mm : wM) (h : Inv Mx Mm) : w_X11_go x1 Mx (fun r A => w_X12_go x1 Mm (fun r2 B => r = r2 ∧ Inv A B)) := by
  obtain ⟨nc, hn, e1, e2⟩ := Inv_sz h
  obtain ⟨s, hs, f1, f2⟩ := Inv_st h
  unfold w_X11_go w_X12_go
  refine isState_w (fun c => bf ne10 ?_) (fun c => bt rfl (in_f (by decide) (hi_N (by decide)) c (bt rfl ⟨rfl, h⟩)))
  rw [e1]
  refine bc (fun z => in_t (by decide) (hi_N (by decide)) c (bf ne10 (bt (by rw [e2]; exact z) ⟨rfl, h⟩))) (fun z => ?_)
  obtain ⟨b, hb, rfl, eb⟩ := nI_ex (x := x1) c.1
  refine walkS ⟨_, h⟩ hs f1 (by omega) (fun A _ _ _ _ k => in_t (by decide) (hi_N (by decide)) c (bf ne10 (bf (by rw [e2]; exact z) ?_)))
  exact k Mm h _ (fun B hB _ => ⟨rfl, hB⟩)
/-- a bit of any int -/
def ib (x : Int32) (i : Nat) : Bool := x.toBitVec.getLsbD i
theorem one_bit (i : Nat) : (nI 1).toBitVec.getLsbD i = decide (i = 0) := by
  rw [nI_bv, BitVec.getLsbD_ofNat]
  rcases i with _ | i
  · rfl
  · rw [show (1 : Nat) = 2 ^ 0 by decide, Nat.testBit_two_pow]
    simp
theorem bI_bit (b : Bool) (i : Nat) : (bI b).toBitVec.getLsbD i = (b && decide (i = 0)) := by
  cases b
  · rw [Bool.false_and]
    show (BitVec.ofNat 32 0).getLsbD i = false
    simp
  · rw [Bool.true_and]; exact one_bit i
theorem ibR (x : Int32) {i : Nat} (hi : i < 32) : jshr x (nI i) &&& nI 1 = bI (ib x i) := by
  apply Int32.toBitVec_inj.mp
  apply BitVec.eq_of_getLsbD_eq
  intro j hj
  unfold jshr
  rw [Int32.toBitVec_and, BitVec.getLsbD_and, one_bit, bI_bit, Int32.toBitVec_shiftRight, BitVec.sshiftRight', sh_i i hi, BitVec.getLsbD_sshiftRight]
  by_cases z : j = 0
  · subst z
    unfold ib
    simp [hi]
  · rw [decide_eq_false z, Bool.and_false, Bool.and_false]
theorem ibU (x : Int32) {i : Nat} (hi : i < 32) : jushr x (nI i) &&& nI 1 = bI (ib x i) := by
  apply Int32.toBitVec_inj.mp
  apply BitVec.eq_of_getLsbD_eq
  intro j hj
  have e2 : (jushr x (nI i)).toBitVec = x.toBitVec >>> i := by
    show (x.toUInt32 >>> ((nI i).toUInt32 &&& Int32.toUInt32 31)).toBitVec = _
    rw [UInt32.toBitVec_shiftRight, BitVec.ushiftRight_eq', ush_i i hi]
    rfl
  rw [Int32.toBitVec_and, BitVec.getLsbD_and, one_bit, bI_bit, e2, BitVec.getLsbD_ushiftRight]
  by_cases z : j = 0
  · subst z
    unfold ib
    simp
  · rw [decide_eq_false z, Bool.and_false, Bool.and_false]
theorem ib_w {x : Int32} {i : Nat} {M : wM} {Q : Int32 → wM → Prop} (hi : i < 32) (q : Q (bI (ib x i)) M) : w_X11_bit x (nI i) M Q := by
  unfold w_X11_bit
  rw [ibU x hi]
  exact q
