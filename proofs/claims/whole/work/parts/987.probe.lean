/-! ticks, found, broken -/
theorem or0 (x : Int32) : x ||| nI 0 = x := by
  apply Int32.toBitVec_inj.mp
  rw [Int32.toBitVec_or, nI_bv]
  simp
/-- one step from anywhere -/
theorem stq {X : wM} {Q : Int32 → wM → Prop} (h0 : ∃ M, Inv X M) (m d : Bool)
    (q : ∀ (r : Int32) (A : wM), (∃ B, Inv A B) → (r = -4 ∨ r = nI 0 ∨ r = nI 1) → FX X A → (∀ M, Inv X M → ∀ Q' : Int32 → wM → Prop, (∀ B, Inv A B → FM M B → Q' r B) → w_X12_ticks1 (bI m) (bI d) M Q') → Q r A) : w_X0_step (bI m) (bI d) X Q := by
  obtain ⟨M, hM⟩ := id h0
  obtain ⟨s, hs, es, -⟩ := Inv_st hM
  exact stpS h0 hs es m d (fun r A a1 a2 _ _ _ a3 a4 => q r A a1 a2 a3 a4)
theorem walkQ {X : wM} {b : Nat} {Q : Int32 → wM → Prop} (h0 : ∃ M, Inv X M) (hb : b < 16)
    (q : ∀ (n : Nat) (A : wM), (∃ B, Inv A B) → gi A 26 5 = nI b → FX X A → (∀ M, Inv X M → ∀ Q' : Int32 → wM → Prop, (∀ B, Inv A B → FM M B → Q' (nI n) B) → w_X12_goesTo (nI b) M Q') → Q (nI n) A) : w_X0_walk (nI b) X Q := by
  obtain ⟨M, hM⟩ := id h0
  obtain ⟨s, hs, es, -⟩ := Inv_st hM
  exact walkS h0 hs es hb (fun A a1 a2 _ a3 a4 => q _ A a1 a2 a3 a4)
theorem law_ticks (x1 x2 x3 : Int32) (Mx Mm : wM) (h : Inv Mx Mm) : w_X11_ticks x1 x2 x3 Mx (fun r A => w_X12_ticks x1 x2 x3 Mm (fun r2 B => r = r2 ∧ Inv A B)) := by
  obtain ⟨nc, hn, e1, e2⟩ := Inv_sz h
  unfold w_X11_ticks
  by_cases c : 1 ≤ x1.toInt ∧ x1.toInt ≤ 31
  · obtain ⟨n, hn1, rfl, en⟩ := nI_ex (x := x1) (by omega)
    refine bf (by rw [lt_n (by decide)]; omega) (bt (by rw [le_n (by decide)]; omega) ?_)
    unfold w_X12_ticks
    rw [e1]
    refine bc (fun z => in_t (by decide) (hi_N (by decide)) c (bf ne10 (bt (by rw [e2]; exact z) ⟨rfl, h⟩))) (fun z => ?_)
    refine lo2 (fun K y4 y5 M => wb_X11_ticks_32 (nI n) x2 x3 K y4 y5 M _) (fun _ _ _ _ => rfl) n (fun i y A => (∃ B, Inv A B) ∧ ∀ Q' : Int32 → wM → Prop, (∀ B, Inv A B → wL_X12_ticks_30 (nI n) x2 x3 Q' (n - i + 1) y (nI i) B) → ∃ k, wL_X12_ticks_30 (nI n) x2 x3 Q' k (nI 0) (nI 0) Mm) ?_ ?_ (Nat.zero_le _) ⟨⟨_, h⟩, fun Q' q' => ⟨_, q' Mm h⟩⟩
    · rintro i y A K hi ⟨ex, ms⟩ kk
      have st : ∀ m d : Bool, ib x2 i = m → ib x3 i = d → wj_X11_ticks_72 (nI n) x2 x3 y (nI i) (bI m) (bI d) K A (fun r A => w_X12_in (nI n).toInt64 (lN 1) (lN 31) Mm (fun r1 M2 => (r1 = (nI 0) → r = -1 ∧ Inv A M2) ∧ (¬ r1 = (nI 0) → ((gi M2 0 22) = (nI 0) → r = -2 ∧ Inv A M2) ∧ (¬ (gi M2 0 22) = (nI 0) → ∃ k, wL_X12_ticks_30 (nI n) x2 x3 (fun r2 B => r = r2 ∧ Inv A B) k (nI 0) (nI 0) M2)))) := by
        intro m d hm hd
        refine stq ex m d (fun r A' ex' hr _ k => ?_)
        have nxt : ∀ y', (∀ Q' : Int32 → wM → Prop, ∀ B', Inv A' B' → (wL_X12_ticks_30 (nI n) x2 x3 Q' (n - (i + 1) + 1) y' (nI (i + 1)) B') → ((r = nI 1 → wL_X12_ticks_30 (nI n) x2 x3 Q' (n - (i + 1) + 1) (y ||| jshl (nI 1) (nI i)) (nI i + nI 1) B') ∧ (¬ r = nI 1 → wL_X12_ticks_30 (nI n) x2 x3 Q' (n - (i + 1) + 1) (y ||| nI 0) (nI i + nI 1) B'))) → K y' (nI (i + 1)) A' := by
          intro y' hy
          refine kk _ _ ⟨ex', fun Q' q' => ms Q' (fun B hB => ?_)⟩
          rw [show n - i + 1 = (n - (i + 1) + 1) + 1 by omega]
          show wb_X12_ticks_30 (nI n) x2 x3 (wL_X12_ticks_30 (nI n) x2 x3 Q' (n - (i + 1) + 1)) y (nI i) B Q'
          unfold wb_X12_ticks_30
          rw [ibR x2 (by omega), hm]
          refine bf (nI_ge hi (by omega)) ?_
          have w : wj_X12_ticks_54 (nI n) x2 x3 (nI i) y (bI m) (wL_X12_ticks_30 (nI n) x2 x3 Q' (n - (i + 1) + 1)) B Q' := by
            unfold wj_X12_ticks_54
            rw [ibR x3 (by omega), hd]
            exact k B hB _ (fun B' hB' _ => hy Q' B' hB' (q' B' hB'))
          cases m
          · exact bf (by decide) w
          · exact bt rfl w
        rw [nI_add]
        refine bc (fun z => nxt _ (fun Q' B' _ w => bt z ?_)) (fun z => nxt _ (fun Q' B' _ w => bf z ?_))
        · rw [nI_add]; exact w
        · rw [nI_add, or0]; exact w
      unfold wb_X11_ticks_32
      refine bf (nI_ge hi (by omega)) (ib_w (by omega) (bI_c (fun hm => ib_w (by omega) (bI_c (fun hd => st true true hm hd) (fun hd => st true false hm hd))) (fun hm => ib_w (by omega) (bI_c (fun hd => st false true hm hd) (fun hd => st false false hm hd)))))
    · rintro y A K ⟨ex, ms⟩
      unfold wb_X11_ticks_32
      refine bt (nI_le (by omega) (by omega)) (in_t (by decide) (hi_N (by decide)) c (bf ne10 (bf (by rw [e2]; exact z) (ms _ (fun B hB => ?_)))))
      rw [Nat.sub_self]
      show wb_X12_ticks_30 (nI n) x2 x3 _ y (nI n) B _
      exact bt (nI_le (by omega) (by omega)) ⟨rfl, hB⟩
  · have w : ∀ Q : Int32 → wM → Prop, Q (-1) Mm → w_X12_ticks x1 x2 x3 Mm Q := fun Q q => in_f (by decide) (hi_N (by decide)) c (bt rfl q)
    refine bc (fun _ => w _ ⟨rfl, h⟩) (fun z => bf (fun y => ?_) (w _ ⟨rfl, h⟩))
    rw [lt_n (by decide)] at z
    rw [le_n (by decide)] at y
    omega
theorem resetS {X : wM} {Q : wM → Prop} (h0 : ∃ M, Inv X M) (q : ∀ A : wM, (∃ B, Inv A B) → FX X A → (∀ M, Inv X M → ∀ Q' : wM → Prop, (∀ B, Inv A B → FM M B → Q' B) → w_X12_fiveUp M Q') → Q A) : w_X6_resetAll X Q := by
  refine lo1 (fun K y M => wb_X6_resetAll_2 K y M Q) (fun _ _ _ => rfl) 5 (fun i A => (∃ B, Inv A B) ∧ FX X A ∧ ∀ M, Inv X M → ∀ Q' : wM → Prop, (∀ B, Inv A B → FM M B → wL_X12_fiveUp_2 Q' (5 - i + 1) (nI i) B) → w_X12_fiveUp M Q') ?_ ?_ (Nat.zero_le _) ⟨h0, FX_refl, fun M hM Q' q' => ⟨_, q' M hM FM_refl⟩⟩
  · rintro i A K hi ⟨ex, fx, ms⟩ kk
    unfold wb_X6_resetAll_2
    rw [nI_add]
    refine bf (nI_ge hi (by omega)) (stq ex true true (fun r A' ex' _ fx' k => kk _ ⟨ex', FX_trans fx fx', fun M hM Q' q' => ms M hM Q' (fun B hB fB => ?_)⟩))
    rw [show 5 - i + 1 = (5 - (i + 1) + 1) + 1 by omega]
    show wb_X12_fiveUp_2 (wL_X12_fiveUp_2 Q' (5 - (i + 1) + 1)) (nI i) B Q'
    unfold wb_X12_fiveUp_2
    rw [nI_add]
    exact bf (nI_ge hi (by omega)) (k B hB _ (fun B' hB' fB' => q' B' hB' (FM_trans fB fB')))
  · rintro A K ⟨ex, fx, ms⟩
    unfold wb_X6_resetAll_2
    refine bt (nI_le (by omega) (by omega)) (q A ex fx (fun M hM Q' q' => ms M hM Q' (fun B hB fB => ?_)))
    exact bt (nI_le (by omega) (by omega)) (q' B hB fB)
theorem law_found (Mx Mm : wM) (h : Inv Mx Mm) : w_X11_found Mx (fun r A => w_X12_found Mm (fun r2 B => r = r2 ∧ Inv A B)) := by
  obtain ⟨nc, hn, e1, e2⟩ := Inv_sz h
  unfold w_X11_found
  rw [e1]
  refine bc (fun z => bt (by rw [e2]; exact z) ⟨rfl, h⟩) (fun z => ?_)
  refine resetS ⟨_, h⟩ (fun A1 ex1 fx1 k1 => walkQ ex1 (b := 11) (by decide) (fun n2 A2 ex2 _ fx2 k2 => ?_))
  have m2 : ∀ Q' : Int32 → wM → Prop, (∀ B, Inv A2 B → wL_X12_found_23 Q' 65 (nI 0) B) → w_X12_found Mm Q' := by
    intro Q' q'
    unfold w_X12_found
    rw [e2]
    exact bf z (k1 Mm h _ (fun B hB _ => k2 B hB _ (fun B' hB' _ => ⟨65, q' B' hB'⟩)))
  refine lo1 (fun K y M => wb_X6_countChips_16 K y M _) (fun _ _ _ => rfl) 64 (fun i A => (∃ B, Inv A B) ∧ ∀ Q' : Int32 → wM → Prop, (∀ B, Inv A B → wL_X12_found_23 Q' (64 - i + 1) (nI i) B) → w_X12_found Mm Q') ?_ ?_ (Nat.zero_le _) ⟨ex2, m2⟩
  · rintro i A K hi ⟨ex, ms⟩ kk
    have st : ∀ m : Bool, ((m = true ∧ i = 63) ∨ (m = false ∧ i ≠ 63)) → w_X0_step (bI m) (bI true) A (fun r A' => K (nI (i + 1)) A') := by
      intro m hm
      refine stq ex m true (fun r A' ex' _ _ k => kk _ ⟨ex', fun Q' q' => ms Q' (fun B hB => ?_)⟩)
      rw [show 64 - i + 1 = (64 - (i + 1) + 1) + 1 by omega]
      show wb_X12_found_23 (wL_X12_found_23 Q' (64 - (i + 1) + 1)) (nI i) B Q'
      unfold wb_X12_found_23
      rw [nI_add]
      have w := k B hB (fun _ M19 => wL_X12_found_23 Q' (64 - (i + 1) + 1) (nI (i + 1)) M19) (fun B' hB' _ => q' B' hB')
      refine bf (nI_ge hi (by omega)) ?_
      rcases hm with ⟨rfl, rfl⟩ | ⟨rfl, y⟩
      · exact bt rfl w
      · exact bf (fun x => y (inj31 x (by omega) (by decide))) w
    unfold wb_X6_countChips_16
    rw [nI_add]
    refine bf (nI_ge hi (by omega)) (bc (fun y => st true (Or.inl ⟨rfl, inj31 y (by omega) (by decide)⟩)) (fun y => st false (Or.inr ⟨rfl, fun x => y (by rw [x])⟩)))
  · rintro A K ⟨ex, ms⟩
    unfold wb_X6_countChips_16
    refine bt (nI_le (by omega) (by omega)) (walkQ ex (b := 4) (by decide) (fun n3 A3 ex3 _ fx3 k3 => ?_))
    have m3 : ∀ Q' : Int32 → wM → Prop, (∀ B, Inv A3 B → wL_X12_found_62 Q' 21 (nI 0) (nI 0) B) → w_X12_found Mm Q' := by
      intro Q' q'
      refine ms Q' (fun B hB => bt (nI_le (by omega) (by omega)) (k3 B hB _ (fun B' hB' _ => ⟨21, q' B' hB'⟩)))
    refine lo2 (fun K y1 y M => wb_X6_countChips_61 K y1 y M _) (fun _ _ _ _ => rfl) 20 (fun i y A => (∃ B, Inv A B) ∧ ∀ Q' : Int32 → wM → Prop, (∀ B, Inv A B → wL_X12_found_62 Q' (20 - i + 1) y (nI i) B) → w_X12_found Mm Q') ?_ ?_ (Nat.zero_le _) ⟨ex3, m3⟩
    · rintro i y A K hi ⟨ex, ms⟩ kk
      unfold wb_X6_countChips_61
      rw [nI_add]
      refine bf (nI_ge hi (by omega)) (stq ex false false (fun r A' ex' _ _ k => kk _ _ ⟨ex', fun Q' q' => ms Q' (fun B hB => ?_)⟩))
      rw [show 20 - i + 1 = (20 - (i + 1) + 1) + 1 by omega]
      show wb_X12_found_62 (wL_X12_found_62 Q' (20 - (i + 1) + 1)) y (nI i) B Q'
      unfold wb_X12_found_62
      rw [nI_add]
      exact bf (nI_ge hi (by omega)) (k B hB _ (fun B' hB' _ => q' B' hB'))
    · rintro y A K ⟨ex, ms⟩
      unfold wb_X6_countChips_61
      refine bt (nI_le (by omega) (by omega)) (bc (fun y1 => ms _ (fun B hB => bt (nI_le (by omega) (by omega)) (bt y1 ⟨rfl, hB⟩))) (fun y1 => ?_))
      have m4 : ∀ Q' : Int32 → wM → Prop, (∀ B, Inv A B → wL_X12_found_91 Q' 21 (nI 0) B) → w_X12_found Mm Q' := fun Q' q' => ms Q' (fun B hB => bt (nI_le (by omega) (by omega)) (bf y1 ⟨21, q' B hB⟩))
      refine lo1 (fun K y M => wb_X6_countChips_93 K y M _) (fun _ _ _ => rfl) 20 (fun i A => (∃ B, Inv A B) ∧ ∀ Q' : Int32 → wM → Prop, (∀ B, Inv A B → wL_X12_found_91 Q' (20 - i + 1) (nI i) B) → w_X12_found Mm Q') ?_ ?_ (Nat.zero_le _) ⟨ex, m4⟩
      · rintro i A K hi ⟨ex, ms⟩ kk
        unfold wb_X6_countChips_93
        rw [nI_add]
        refine bf (nI_ge hi (by omega)) (stq ex false true (fun r A' ex' _ _ k => ?_))
        have mm : ∀ Q' : Int32 → wM → Prop, (∀ B', Inv A' B' → (r = nI 1 → Q' (nI i) B') ∧ (¬ r = nI 1 → wL_X12_found_91 Q' (20 - (i + 1) + 1) (nI (i + 1)) B')) → w_X12_found Mm Q' := by
          refine fun Q' q' => ms Q' (fun B hB => ?_)
          rw [show 20 - i + 1 = (20 - (i + 1) + 1) + 1 by omega]
          show wb_X12_found_91 (wL_X12_found_91 Q' (20 - (i + 1) + 1)) (nI i) B Q'
          unfold wb_X12_found_91
          rw [nI_add]
          exact bf (nI_ge hi (by omega)) (k B hB _ (fun B' hB' _ => q' B' hB'))
        exact bc (fun y => mm _ (fun B' hB' => bt y ⟨rfl, hB'⟩)) (fun y => kk _ ⟨ex', fun Q' q' => mm Q' (fun B' hB' => bf y (q' B' hB'))⟩)
      · rintro A K ⟨ex, ms⟩
        unfold wb_X6_countChips_93
        exact bt (nI_le (by omega) (by omega)) (ms _ (fun B hB => bt (nI_le (by omega) (by omega)) ⟨rfl, hB⟩))
