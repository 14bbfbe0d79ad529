/-! the reader: an item's number, its cells, in the reference -/
section MN
variable {b : Nat → Nat} {n p c : Nat} {B : wM} {P : PT} {K : wM → Prop}
theorem flt_si {a j c' f : Nat} {x : Int32} (h : flt B c' f) (ha : a ≠ 0) : flt (si B a j x) c' f := ⟨by rw [gi_ne (Or.inl (Ne.symm ha))]; exact h.1, h.2.1, by rw [gi_ne (Or.inl (Ne.symm ha))]; exact h.2.2⟩
theorem TK_si {a j : Nat} {x : Int32} (h : TK b n B p) (ha : a ≠ 0) : TK b n (si B a j x) p := by
  have k : ∀ i, gi (si B a j x) 0 i = gi B 0 i := fun i => gi_ne (Or.inl (Ne.symm ha))
  unfold TK
  rw [k, k, k, k, k]
  exact h
/-- the end of an item: the next token -/
theorem fin1 {j : Nat} (tm : TM B b n) (hp : p ≤ n) (tk : TK b n B p) (q : ∀ B' : wM, fN B B' → HM b n B' (tE b n p) → K B') : w_X12_next B (fun M => K M) := by
  have el := tE_le (b := b) hp
  exact nxM tm tk.1 tk.2.2.2.1 el.2 q
theorem rn0 (tm : TM B b n) (hp : p ≤ n) (tk : TK b n B p) (g : tG b n p) (e7 : gi B 0 7 = nI c) (hc : c < 6) (mp : MP B c P)
    (q2 : ¬ tK b n p = 2 → ∀ B' : wM, fR c B B' → flt B' 2 (tF b n p) → K B')
    (q3 : tK b n p = 2 → ¬ tV b n p % 2 = 1 → ∀ B' : wM, fR c B B' → flt B' 3 (tF b n p) → K B')
    (q1 : tK b n p = 2 → tV b n p % 2 = 1 → ∀ B' : wM, fR c B B' → MP B' c (P.1, P.2.1, P.2.2.1, nI (tV b n p), P.2.2.2.2.1, P.2.2.2.2.2) → HM b n B' (tE b n p) → K B') : w_X12_readNumber (nI 0) B (fun M66 => w_X12_next M66 (fun M68 => K M68)) := by
  have kl := tK_lt (b := b) (n := n) (p := p)
  have v6 : vp_in (nI c) 6 := vp_in_nI hc (by decide)
  unfold w_X12_readNumber
  rw [tk.2.1, e7]
  by_cases z : tK b n p = 2
  · have vlt := tV_lt z g
    refine bt (by rw [z]) ?_
    unfold wj_X12_readNumber_19
    refine want1 ne10 ?_
    rw [tk.1, tk.2.2.2.2 z, pk_rem (by omega) (by decide) (by decide)]
    refine bt (nI_le (by decide) (by decide)) (bt rfl ?_)
    by_cases y : tV b n p % 2 = 1
    · refine bt (by rw [y]) (want1 ne10 ⟨v6, ?_⟩)
      rw [tk.2.2.2.2 z, nI_clamp (n := c) (by omega)]
      refine fin1 (j := 0) (TM_R tm (fR_si (c := c) (by decide))) hp (TK_si tk (by decide)) (fun B' f h => q1 z y B' (fR_trans (fR_si (by decide)) (fN_R f)) ?_ h)
      refine MP_fr (B := si B 8 c (nI (tV b n p))) ?_ (fun a _ _ => f a c (by omega))
      obtain ⟨m0, m1, m5, m2, m3, m4⟩ := mp
      exact ⟨by rw [gi_ne (Or.inl (by decide))]; exact m0, by rw [gi_ne (Or.inl (by decide))]; exact m1, by rw [gi_ne (Or.inl (by decide))]; exact m5, gi_eq .., by rw [gi_ne (Or.inl (by decide))]; exact m3, by rw [gi_ne (Or.inl (by decide))]; exact m4⟩
    · refine bf (fun w => y (inj31 w (by omega) (by decide))) (want0 tk.1 tk.2.2.1 (by decide) (fun B1 f1 h1 _ => ⟨v6, ?_⟩))
      rw [nI_clamp (n := c) (by omega)]
      exact nxF (flt_si h1 (by decide)) (q3 z y _ (fR_trans (fN_R f1) (fR_si (by decide))) (flt_si h1 (by decide)))
  · refine bf (fun w => z (inj31 w (by omega) (by decide))) ?_
    unfold wj_X12_readNumber_19
    refine want0 tk.1 tk.2.2.1 (by decide) (fun B1 f1 h1 _ => ?_)
    rw [h1.1]
    exact bf (nI_ge (by decide) (by decide)) (nxF h1 (q2 z B1 (fN_R f1) h1))
theorem rn1 (tm : TM B b n) (hp : p ≤ n) (tk : TK b n B p) (g : tG b n p) (e7 : gi B 0 7 = nI c) (hc : c < 6) (gg : PG P) (mp : MP B c P)
    (q2 : ¬ tK b n p = 2 → ∀ B' : wM, fR c B B' → flt B' 2 (tF b n p) → K B')
    (q3 : tK b n p = 2 → 2 ^ P.1 - 2 < tV b n p → ∀ B' : wM, fR c B B' → flt B' 3 (tF b n p) → K B')
    (q4 : tK b n p = 2 → ¬ 2 ^ P.1 - 2 < tV b n p → nI (tV b n p) = P.2.2.2.2.2 → ∀ B' : wM, fR c B B' → flt B' 4 (tF b n p) → K B')
    (q1 : tK b n p = 2 → ¬ 2 ^ P.1 - 2 < tV b n p → ¬ nI (tV b n p) = P.2.2.2.2.2 → ∀ B' : wM, fR c B B' → MP B' c (P.1, P.2.1, P.2.2.1, P.2.2.2.1, nI (tV b n p), P.2.2.2.2.2) → HM b n B' (tE b n p) → K B') : w_X12_readNumber (nI 1) B (fun M66 => w_X12_next M66 (fun M68 => K M68)) := by
  have kl := tK_lt (b := b) (n := n) (p := p)
  have v6 : vp_in (nI c) 6 := vp_in_nI hc (by decide)
  have pw : 2 ^ P.1 ≤ 256 := Nat.pow_le_pow_right (n := 2) (j := 8) (by decide) gg.1.2
  have pw2 : 4 ≤ 2 ^ P.1 := Nat.pow_le_pow_right (n := 2) (i := 2) (by decide) gg.1.1
  have l8 := gg.1
  unfold w_X12_readNumber
  rw [tk.2.1, e7]
  by_cases z : tK b n p = 2
  · have vlt := tV_lt z g
    have fl : ∀ (B1 : wM) (c' : Nat), fR c B B1 → flt B1 c' (tF b n p) → (∀ B' : wM, fR c B B' → flt B' c' (tF b n p) → K B') → wj_X12_readNumber_137 (nI 1) (nI c) B1 (fun M66 => w_X12_next M66 (fun M68 => K M68)) := by
      intro B1 c' f1 h1 k
      unfold wj_X12_readNumber_137
      rw [nI_clamp (n := c) (by omega)]
      exact bt rfl ⟨v6, nxF (flt_si h1 (by decide)) (k _ (fR_trans f1 (fR_si (by decide))) (flt_si h1 (by decide)))⟩
    refine bt (by rw [z]) ?_
    unfold wj_X12_readNumber_19
    refine want1 ne10 ?_
    rw [tk.1, tk.2.2.2.2 z, nI_clamp (n := c) (by omega), mp.1, bshl1 (by omega), pk_sub (by omega)]
    refine bt (nI_le (by decide) (by decide)) (bf (by decide) ⟨v6, ?_⟩)
    by_cases y : 2 ^ P.1 - 2 < tV b n p
    · refine bt (nI_le (by omega) (by omega)) ?_
      unfold wj_X12_readNumber_89
      refine want0 tk.1 tk.2.2.1 (by decide) (fun B1 f1 h1 _ => bf (f0 h1) (fl B1 3 (fN_R f1) h1 (q3 z y)))
    · refine bf (nI_ge (by omega) (by omega)) ?_
      unfold wj_X12_readNumber_89
      refine want1 ne10 (bt tk.1 (bt rfl ⟨v6, ?_⟩))
      rw [tk.2.2.2.2 z, nI_clamp (n := c) (by omega), mp.2.2.2.2.2]
      refine bc (fun w => want0 tk.1 tk.2.2.1 (by decide) (fun B1 f1 h1 _ => fl B1 4 (fN_R f1) h1 (q4 z y w))) (fun w => want1 ne10 ?_)
      unfold wj_X12_readNumber_137
      rw [tk.2.2.2.2 z, nI_clamp (n := c) (by omega)]
      refine bt rfl ⟨v6, fin1 (j := 0) (TM_R tm (fR_si (c := c) (by decide))) hp (TK_si tk (by decide)) (fun B' f h => q1 z y w B' (fR_trans (fR_si (by decide)) (fN_R f)) ?_ h)⟩
      refine MP_fr (B := si B 9 c (nI (tV b n p))) ?_ (fun a _ _ => f a c (by omega))
      obtain ⟨m0, m1, m5, m2, m3, m4⟩ := mp
      exact ⟨by rw [gi_ne (Or.inl (by decide))]; exact m0, by rw [gi_ne (Or.inl (by decide))]; exact m1, by rw [gi_ne (Or.inl (by decide))]; exact m5, by rw [gi_ne (Or.inl (by decide))]; exact m2, gi_eq .., by rw [gi_ne (Or.inl (by decide))]; exact m4⟩
  · refine bf (fun w => z (inj31 w (by omega) (by decide))) ?_
    unfold wj_X12_readNumber_19
    refine want0 tk.1 tk.2.2.1 (by decide) (fun B1 f1 h1 _ => ?_)
    rw [h1.1]
    exact bf (nI_ge (by decide) (by decide)) (nxF h1 (q2 z B1 (fN_R f1) h1))
theorem rn2 (tm : TM B b n) (hp : p ≤ n) (tk : TK b n B p) (g : tG b n p) (e7 : gi B 0 7 = nI c) (hc : c < 6) (gg : PG P) (mp : MP B c P)
    (q2 : ¬ tK b n p = 2 → ∀ B' : wM, fR c B B' → flt B' 2 (tF b n p) → K B')
    (q3 : tK b n p = 2 → 2 ^ P.1 - 2 < tV b n p → ∀ B' : wM, fR c B B' → flt B' 3 (tF b n p) → K B')
    (q4 : tK b n p = 2 → ¬ 2 ^ P.1 - 2 < tV b n p → nI (tV b n p) = P.2.2.2.2.1 → ∀ B' : wM, fR c B B' → flt B' 4 (tF b n p) → K B')
    (q1 : tK b n p = 2 → ¬ 2 ^ P.1 - 2 < tV b n p → ¬ nI (tV b n p) = P.2.2.2.2.1 → ∀ B' : wM, fR c B B' → MP B' c (P.1, P.2.1, P.2.2.1, P.2.2.2.1, P.2.2.2.2.1, nI (tV b n p)) → HM b n B' (tE b n p) → K B') : w_X12_readNumber (nI 2) B (fun M66 => w_X12_next M66 (fun M68 => K M68)) := by
  have kl := tK_lt (b := b) (n := n) (p := p)
  have v6 : vp_in (nI c) 6 := vp_in_nI hc (by decide)
  have pw : 2 ^ P.1 ≤ 256 := Nat.pow_le_pow_right (n := 2) (j := 8) (by decide) gg.1.2
  have pw2 : 4 ≤ 2 ^ P.1 := Nat.pow_le_pow_right (n := 2) (i := 2) (by decide) gg.1.1
  have l8 := gg.1
  unfold w_X12_readNumber
  rw [tk.2.1, e7]
  by_cases z : tK b n p = 2
  · have vlt := tV_lt z g
    have fl : ∀ (B1 : wM) (c' : Nat), fR c B B1 → flt B1 c' (tF b n p) → (∀ B' : wM, fR c B B' → flt B' c' (tF b n p) → K B') → wj_X12_readNumber_137 (nI 2) (nI c) B1 (fun M66 => w_X12_next M66 (fun M68 => K M68)) := by
      intro B1 c' f1 h1 k
      unfold wj_X12_readNumber_137
      rw [nI_clamp (n := c) (by omega)]
      exact bf (by decide) ⟨v6, nxF (flt_si h1 (by decide)) (k _ (fR_trans f1 (fR_si (by decide))) (flt_si h1 (by decide)))⟩
    refine bt (by rw [z]) ?_
    unfold wj_X12_readNumber_19
    refine want1 ne10 ?_
    rw [tk.1, tk.2.2.2.2 z, nI_clamp (n := c) (by omega), mp.1, bshl1 (by omega), pk_sub (by omega)]
    refine bt (nI_le (by decide) (by decide)) (bf (by decide) ⟨v6, ?_⟩)
    by_cases y : 2 ^ P.1 - 2 < tV b n p
    · refine bt (nI_le (by omega) (by omega)) ?_
      unfold wj_X12_readNumber_89
      refine want0 tk.1 tk.2.2.1 (by decide) (fun B1 f1 h1 _ => bf (f0 h1) (fl B1 3 (fN_R f1) h1 (q3 z y)))
    · refine bf (nI_ge (by omega) (by omega)) ?_
      unfold wj_X12_readNumber_89
      refine want1 ne10 (bt tk.1 (bf (by decide) ⟨v6, ?_⟩))
      rw [tk.2.2.2.2 z, nI_clamp (n := c) (by omega), mp.2.2.2.2.1]
      refine bc (fun w => want0 tk.1 tk.2.2.1 (by decide) (fun B1 f1 h1 _ => fl B1 4 (fN_R f1) h1 (q4 z y w))) (fun w => want1 ne10 ?_)
      unfold wj_X12_readNumber_137
      rw [tk.2.2.2.2 z, nI_clamp (n := c) (by omega)]
      refine bf (by decide) ⟨v6, fin1 (j := 0) (TM_R tm (fR_si (c := c) (by decide))) hp (TK_si tk (by decide)) (fun B' f h => q1 z y w B' (fR_trans (fR_si (by decide)) (fN_R f)) ?_ h)⟩
      refine MP_fr (B := si B 10 c (nI (tV b n p))) ?_ (fun a _ _ => f a c (by omega))
      obtain ⟨m0, m1, m5, m2, m3, m4⟩ := mp
      exact ⟨by rw [gi_ne (Or.inl (by decide))]; exact m0, by rw [gi_ne (Or.inl (by decide))]; exact m1, by rw [gi_ne (Or.inl (by decide))]; exact m5, by rw [gi_ne (Or.inl (by decide))]; exact m2, by rw [gi_ne (Or.inl (by decide))]; exact m3, gi_eq ..⟩
  · refine bf (fun w => z (inj31 w (by omega) (by decide))) ?_
    unfold wj_X12_readNumber_19
    refine want0 tk.1 tk.2.2.1 (by decide) (fun B1 f1 h1 _ => ?_)
    rw [h1.1]
    exact bf (nI_ge (by decide) (by decide)) (nxF h1 (q2 z B1 (fN_R f1) h1))
theorem rdC (tm : TM B b n) (hp : p ≤ n) (tk : TK b n B p) (e7 : gi B 0 7 = nI c) (hc : c < 6) (mp : MP B c P)
    (q2 : ¬ tK b n p = 1 → ∀ B' : wM, fR c B B' → flt B' 2 (tF b n p) → K B')
    (q3 : tK b n p = 1 → ¬ (tE b n p - tF b n p ≤ 10 ∧ allB (ioB b (tF b n p)) (tE b n p - tF b n p) = true) → ∀ B' : wM, fR c B B' → flt B' 3 (tF b n p) → K B')
    (q1 : tK b n p = 1 → (tE b n p - tF b n p ≤ 10 ∧ allB (ioB b (tF b n p)) (tE b n p - tF b n p) = true) → ∀ B' : wM, fR c B B' → MP B' c (P.1, tE b n p - tF b n p, bld (oB b (tF b n p)) (tE b n p - tF b n p), P.2.2.2.1, P.2.2.2.2.1, P.2.2.2.2.2) → HM b n B' (tE b n p) → K B') : w_X12_readCells B (fun M61 => w_X12_next M61 (fun M63 => K M63)) := by
  have n240 := tm.1
  have fl := tF_le (b := b) hp
  have el := tE_le (b := b) hp
  have kl := tK_lt (b := b) (n := n) (p := p)
  have v6 : vp_in (nI c) 6 := vp_in_nI hc (by decide)
  -- a fault was told
  have ff : ∀ (B1 : wM) (c' : Nat) (y1 z2 : Int32), gi B1 0 7 = nI c → fR c B B1 → flt B1 c' (tF b n p) → (∀ B' : wM, fR c B B' → flt B' c' (tF b n p) → K B') → wj_X12_readCells_132 y1 z2 B1 (fun M61 => w_X12_next M61 (fun M63 => K M63)) := by
    intro B1 c' y1 z2 g7 f1 h1 k
    unfold wj_X12_readCells_132
    rw [g7, nI_clamp (n := c) (by omega)]
    exact ⟨v6, v6, nxF (flt_si (flt_si h1 (by decide)) (by decide)) (k _ (fR_trans (fR_trans f1 (fR_si (a := 11) (by decide))) (fR_si (by decide))) (flt_si (flt_si h1 (by decide)) (by decide)))⟩
  unfold w_X12_readCells
  rw [tk.2.1]
  by_cases z : tK b n p = 1
  · refine bt (by rw [z]) ?_
    unfold wj_X12_readCells_14
    refine want1 ne10 ?_
    rw [tk.2.2.2.1, tk.2.2.1, pk_sub el.1, lt_nn (by decide) (by omega)]
    have bad3 : ¬ (tE b n p - tF b n p ≤ 10 ∧ allB (ioB b (tF b n p)) (tE b n p - tF b n p) = true) → ∀ y1 z2 : Int32, w_X12_wants (nI 0) (nI 3) B (fun M8 => wj_X12_readCells_132 y1 z2 M8 (fun M61 => w_X12_next M61 (fun M63 => K M63))) := fun w y1 z2 => want0 tk.1 tk.2.2.1 (by decide) (fun B1 f1 h1 h2 => ff B1 3 y1 z2 ((h2 7 (by decide) (by decide)).trans e7) (fN_R f1) h1 (q3 z w))
    have loop : ∀ g0 : Nat, g0 < 2 → (g0 = 0 ↔ 10 < tE b n p - tF b n p) → wj_X12_readCells_41 (nI 0) (nI (tE b n p - tF b n p)) (nI g0) B (fun M61 => w_X12_next M61 (fun M63 => K M63)) := by
      intro g0 g2 gi0
      unfold wj_X12_readCells_41
      refine lo3 (fun K' y1 y3 y4 M => wb_X12_readCells_45 (nI (tE b n p - tF b n p)) K' y1 y3 y4 M (fun M61 => w_X12_next M61 (fun M63 => K M63))) (fun _ _ _ _ _ => rfl) (tE b n p - tF b n p) (fun i a g M => M = B ∧ ((g = nI 1 ∧ tE b n p - tF b n p ≤ 10 ∧ allB (ioB b (tF b n p)) i = true ∧ a = nI (bld (oB b (tF b n p)) i)) ∨ (g = nI 0 ∧ ¬ (tE b n p - tF b n p ≤ 10 ∧ allB (ioB b (tF b n p)) (tE b n p - tF b n p) = true)))) ?_ ?_ (Nat.zero_le _) ⟨rfl, ?_⟩
      · rintro i a g M K' hi ⟨rfl, h⟩ kk
        unfold wb_X12_readCells_45
        refine bf (nI_ge hi (by omega)) ?_
        rcases h with ⟨rfl, h1, h2, rfl⟩ | ⟨rfl, h1⟩
        · refine bf ne10 (bt tk.1 ?_)
          rw [tk.2.2.1, nI_add]
          refine lookM tm (by omega) (fun w => ?_) (fun w => by omega)
          have b1 := (tm.2.2 _ w).1
          have eo := bld_or (f := oB b (tF b n p)) (i := i) (by omega)
          have s0 : b (tF b n p + i) ≠ 111 → nI (bld (oB b (tF b n p)) i) ||| nI 0 = nI (bld (oB b (tF b n p)) (i + 1)) := by
            intro hne
            rw [show bI (oB b (tF b n p) i) = nI 0 from bI_0.mpr (decide_eq_false hne)] at eo
            rw [← eo, show jshl (nI 0) (nI i) = nI 0 by rw [bshl (by omega) (by omega), Nat.zero_mul]]
          unfold wj_X12_readCells_94
          rw [nI_add]
          refine bc (fun u => ?_) (fun u => bc (fun v => ?_) (fun v => ?_))
          · have u' : b (tF b n p + i) = 105 := inj31 u (by omega) (by decide)
            refine bf (by rw [u]; decide) (kk _ _ _ ⟨rfl, Or.inl ⟨rfl, h1, ?_, s0 (by omega)⟩⟩)
            rw [allB_s, h2]
            exact decide_eq_true (Or.inl u')
          · have v' : b (tF b n p + i) = 111 := inj31 v (by omega) (by decide)
            rw [show bI (oB b (tF b n p) i) = nI 1 from bI_1.mpr (decide_eq_true v')] at eo
            refine bt v (kk _ _ _ ⟨rfl, Or.inl ⟨rfl, h1, ?_, eo⟩⟩)
            rw [allB_s, h2]
            exact decide_eq_true (Or.inr v')
          · refine bf v (kk _ _ _ ⟨rfl, Or.inr ⟨rfl, fun t => ?_⟩⟩)
            rcases of_decide_eq_true ((allB_iff _ _).mp t.2 i hi) with t1 | t1
            · exact u (by rw [t1])
            · exact v (by rw [t1])
        · exact bt rfl (bt tk.1 (bad3 h1 _ _))
      · rintro a g M K' ⟨rfl, h⟩
        unfold wb_X12_readCells_45
        refine bt (nI_le (by omega) (by omega)) (bt tk.1 ?_)
        rcases h with ⟨rfl, h1, h2, rfl⟩ | ⟨rfl, h1⟩
        · refine want1 ne10 ?_
          unfold wj_X12_readCells_132
          rw [e7, nI_clamp (n := c) (by omega)]
          refine ⟨v6, v6, fin1 (j := 0) (TM_R tm (fR_trans (fR_si (c := c) (a := 11) (by decide)) (fR_si (by decide)))) hp (TK_si (TK_si tk (by decide)) (by decide)) (fun B' f h => q1 z ⟨h1, h2⟩ B' (fR_trans (fR_trans (fR_si (a := 11) (by decide)) (fR_si (by decide))) (fN_R f)) ?_ h)⟩
          refine MP_fr (B := si (si M 11 c (nI (tE b n p - tF b n p))) 12 c (nI (bld (oB b (tF b n p)) (tE b n p - tF b n p)))) ?_ (fun a _ _ => f a c (by omega))
          obtain ⟨m0, m1, m5, m2, m3, m4⟩ := mp
          exact ⟨by rw [gi_ne (Or.inl (by decide)), gi_ne (Or.inl (by decide))]; exact m0, by rw [gi_ne (Or.inl (by decide)), gi_eq], gi_eq .., by rw [gi_ne (Or.inl (by decide)), gi_ne (Or.inl (by decide))]; exact m2, by rw [gi_ne (Or.inl (by decide)), gi_ne (Or.inl (by decide))]; exact m3, by rw [gi_ne (Or.inl (by decide)), gi_ne (Or.inl (by decide))]; exact m4⟩
        · exact bad3 h1 _ _
      · rcases (show g0 = 0 ∨ g0 = 1 by omega) with rfl | rfl
        · exact Or.inr ⟨rfl, fun t => by have := gi0.mp rfl; omega⟩
        · refine Or.inl ⟨rfl, ?_, rfl, rfl⟩
          rcases Nat.lt_or_ge 10 (tE b n p - tF b n p) with t | t
          · have := gi0.mpr t; omega
          · exact t
    exact bc (fun y => loop 0 (by decide) ⟨fun _ => y, fun _ => rfl⟩) (fun y => loop 1 (by decide) ⟨fun t => by omega, fun t => absurd t y⟩)
  · refine bf (fun w => z (inj31 w (by omega) (by decide))) ?_
    unfold wj_X12_readCells_14
    refine want0 tk.1 tk.2.2.1 (by decide) (fun B1 f1 h1 h2 => ?_)
    have g7 : gi B1 0 7 = nI c := (h2 7 (by decide) (by decide)).trans e7
    have go : ∀ z2 y3 : Int32, wj_X12_readCells_41 (nI 0) z2 y3 B1 (fun M61 => w_X12_next M61 (fun M63 => K M63)) := by
      intro z2 y3
      unfold wj_X12_readCells_41
      refine ⟨1, ?_⟩
      show wb_X12_readCells_45 _ _ _ _ _ _ _
      unfold wb_X12_readCells_45
      have w := ff B1 2 (nI 0) z2 g7 (fN_R f1) h1 (q2 z)
      exact bc (fun _ => bf (f0 h1) w) (fun _ => bc (fun _ => bf (f0 h1) w) (fun _ => bf (f0 h1) (bf (f0 h1) w)))
    exact bc (fun _ => go _ _) (fun _ => go _ _)
end MN
