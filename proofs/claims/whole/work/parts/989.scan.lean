/-! scan -/
theorem and1_ib (x : Int32) : x &&& nI 1 = bI (ib x 0) := by
  apply Int32.toBitVec_inj.mp
  apply BitVec.eq_of_getLsbD_eq
  intro j hj
  rw [Int32.toBitVec_and, BitVec.getLsbD_and, one_bit, bI_bit]
  by_cases z : j = 0
  · subst z; rfl
  · rw [decide_eq_false z, Bool.and_false, Bool.and_false]
theorem lng3 {a b : Nat} (ha : a < 1000) (hb : b < 1000) : ((nI a).toInt64 + (nI b).toInt64 - lN 1).toInt = (a : Int) + b - 1 := by
  have h1 : (nI a).toInt64.toInt = a := hi_I (by omega)
  have h2 : (nI b).toInt64.toInt = b := hi_I (by omega)
  have h3 : (lN 1).toInt = (1 : Nat) := hi_N (by decide)
  rw [Int64.toInt_sub, Int64.toInt_add, h1, h2, h3]
  simp only [Int.bmod_def]
  split <;> split <;> omega
theorem Inv_log {A B : wM} {i : Nat} {r : Int32} (h : Inv A B) : Inv (si A 32 i r) (si B 25 i r) := by
  obtain ⟨n, g1, g2, g3, g4⟩ := h.2.2.2.2.2.2.1
  refine Inv_fr (T := [32]) (S := [25]) h (sX_si (by simp [cX])) (sM_si (by simp [cM])) (hL := Or.inr ⟨n, g1, ?_, ?_, fun j hj => ?_⟩)
  · rw [gi_ne (Or.inl (by decide))]; exact g2
  · rw [gi_ne (Or.inl (by decide))]; exact g3
  · by_cases z : j = i
    · rw [z, gi_eq, gi_eq]
    · rw [gi_ne (Or.inr z), gi_ne (Or.inr z)]; exact g4 j hj
theorem Inv_lgd {A B : wM} {n : Nat} (h : Inv A B) (hn : n ≤ 99) (g : ∀ j, j < n → gi A 32 j = gi B 25 j) : Inv (si A 26 8 (nI n)) (si B 0 38 (nI n)) := by
  refine Inv_fr (T := [3608]) (S := [1038]) h (sX_si (by decide)) (sM_si (by decide)) (hL := Or.inr ⟨n, hn, gi_eq .., gi_eq .., fun j hj => ?_⟩)
  rw [gi_ne (Or.inl (by decide)), gi_ne (Or.inl (by decide))]
  exact g j hj
section SCAN
variable {x1 : Int32} {k f n : Nat} {Mx Mm : wM}
theorem scanRow {Z : (Int32 → wM → Prop) → Prop} {Q : Int32 → wM → Prop} {b s : Nat} (h : Inv Mx Mm) (hk : k < 4) (hf : f + n ≤ 100) (h1 : 1 ≤ n) (h99 : n ≤ 99) (hl : ¬ gi Mx (71 + 2 * k) 0 = -4) (hb : b < 16)
    (ms : ∀ Q' : Int32 → wM → Prop, wj_X12_scan_122 (nI k) (nI f) (nI n) (nI n) (nI b) Mm Q' → Z Q') (q : ∀ r A, Z (fun r2 B => r = r2 ∧ Inv A B) → Q r A) : wj_X0_shiftRow_17 (72 + 2 * k) (nI f) (nI n) (gi Mx 26 6) (nI b) Mx Q := by
  obtain ⟨s, hs, es, -⟩ := Inv_st h
  unfold wj_X0_shiftRow_17
  refine walkS ⟨_, h⟩ hs es hb (fun A1 ex1 s1 t1 fx1 k1 => ?_)
  have hp := (pth_ok b hb s hs).2.2.1
  generalize pthL s b = L1 at t1 k1 hp
  refine lo1 (fun K y M => wb_X0_shiftRow_24 (72 + 2 * k) (nI f) (nI n) (gi Mx 26 6) K y M Q) (fun _ _ _ => rfl) n (fun i A => (∃ B, Inv A B) ∧ (¬ gi A (71 + 2 * k) 0 = -4) ∧ gi A 26 6 = gi Mx 26 6 + nI (L1 + i) ∧ (∃ s, s < 16 ∧ gi A 26 5 = nI s) ∧ ∀ Q' : Int32 → wM → Prop, (∀ B, Inv A B → (∀ j, j < i → gi A 32 j = gi B 25 j) → wL_X12_scan_131 (nI k) (nI f) (nI n) (nI n + nI L1) Q' (n - i + 1) (nI i) B) → Z Q') ?_ ?_ (Nat.zero_le _) ⟨ex1, by rw [fx1.1 _ 0 (by omega)]; exact hl, t1, ⟨_, hb, s1⟩, fun Q' q' => ms Q' (k1 Mm h _ (fun B hB _ => ⟨_, q' B hB (fun j hj => by omega)⟩))⟩
  · rintro i A K hi ⟨ex, hl', t, ⟨s', hs', es'⟩, ms'⟩ kk
    have v99 : vp_in (nI i) 99 := vp_in_nI (by omega) (by decide)
    have st : ∀ m : Bool, ((m = true ∧ i = n - 1) ∨ (m = false ∧ i ≠ n - 1)) → wj_X0_shiftRow_52 (72 + 2 * k) (nI f) (nI n) (gi Mx 26 6) (nI i) (nI i) (bI m) K A Q := by
      intro m hm
      unfold wj_X0_shiftRow_52
      rw [nI_add, nI_add, nI_clamp (n := f + i) (by omega), nI_clamp (n := i) (by omega), (ia_sheet k hk).2]
      have one : ∀ d : Bool, ib (gi A (72 + 2 * k) (f + i)) 0 = d → w_X0_step (bI m) (bI d) A (fun r12 M13 => vp_in (nI i) 99 ∧ (K (nI (i + 1)) (si M13 32 i r12))) := by
        intro d hd
        refine stpS ex hs' es' m d (fun r A' ex' _ _ s5 t5 fx' k5 => ⟨v99, kk _ ⟨?_, ?_, ?_, ⟨_, nx_lt s' hs' m, ?_⟩, fun Q' q' => ms' Q' (fun B hB g => ?_)⟩⟩)
        · obtain ⟨B', hB'⟩ := ex'
          exact ⟨_, Inv_log hB'⟩
        · rw [gi_ne (Or.inl (by omega)), fx'.1 _ 0 (by omega)]; exact hl'
        · rw [gi_ne (Or.inl (by decide)), t5, t, Int32.add_assoc, nI_add]; rfl
        · rw [gi_ne (Or.inl (by decide))]; exact s5
        · rw [show n - i + 1 = (n - (i + 1) + 1) + 1 by omega]
          show wb_X12_scan_131 (nI k) (nI f) (nI n) (nI n + nI L1) (wL_X12_scan_131 (nI k) (nI f) (nI n) (nI n + nI L1) Q' (n - (i + 1) + 1)) (nI i) B Q'
          have w : wj_X12_scan_159 (nI k) (nI f) (nI n) (nI n + nI L1) (nI i) (nI i) (bI m) (wL_X12_scan_131 (nI k) (nI f) (nI n) (nI n + nI L1) Q' (n - (i + 1) + 1)) B Q' := by
            unfold wj_X12_scan_159
            rw [nI_mul, nI_add (100 * k) f, nI_add (100 * k + f) i, nI_add i 1, nI_clamp (n := 100 * k + f + i) (by omega), nI_clamp (n := i) (by omega)]
            have eh := (hB.2.2.2.2.2.2.2.2.1 k hk).2.2.2.2 hl' (f + i) (by omega)
            rw [show 100 * k + f + i = 100 * k + (f + i) by omega, ← eh, and1_ib, hd]
            refine ⟨vp_in_nI (by omega) (by decide), k5 B hB _ (fun B' hB' fB' => ⟨vp_in_nI (by omega) (by decide), q' _ (Inv_log hB') (fun j hj => ?_)⟩)⟩
            by_cases y : j = i
            · rw [y, gi_eq, gi_eq]
            · rw [gi_ne (Or.inr y), gi_ne (Or.inr y), fx'.1 32 j (by omega), fB' 25 j (by omega)]
              exact g j (by omega)
          unfold wb_X12_scan_131
          rw [pk_sub h1]
          refine bf (nI_ge hi (by omega)) ?_
          rcases hm with ⟨rfl, y⟩ | ⟨rfl, y⟩
          · exact bt (by rw [y]) w
          · exact bf (fun x => y (inj31 x (by omega) (by omega))) w
      exact ⟨vp_in_nI (by omega) (by decide), ib_w (by decide) (bI_c (fun hd => one true hd) (fun hd => one false hd))⟩
    unfold wb_X0_shiftRow_24
    rw [pk_sub h1]
    refine bf (nI_ge hi (by omega)) (bc (fun y => st true (Or.inl ⟨rfl, inj31 y (by omega) (by omega)⟩)) (fun y => st false (Or.inr ⟨rfl, fun x => y (by rw [x])⟩)))
  · rintro A K ⟨ex, hl', t, ⟨s', hs', es'⟩, ms'⟩
    unfold wb_X0_shiftRow_24
    refine bt (nI_le (by omega) (by omega)) ?_
    have ex2 : ∃ B, Inv (si A 26 8 (nI n)) B := by
      obtain ⟨B, hB⟩ := ex
      refine ⟨(fun a j => if a = 25 ∧ j < n then gi A 32 j else gi (si B 0 38 (nI n)) a j, B.2.1, B.2.2), ?_⟩
      refine Inv_fr (T := [3608]) (S := [1038, 25]) hB (sX_si (by decide)) (fun a j q => ?_) (hL := Or.inr ⟨n, h99, gi_eq .., ?_, fun j hj => ?_⟩)
      · show (if a = 25 ∧ j < n then gi A 32 j else gi (si B 0 38 (nI n)) a j) = gi B a j
        have a25 : a ≠ 25 := fun y => q (by rw [y]; simp [cM])
        rw [if_neg (fun y => a25 y.1)]
        exact gi_ne (by
          by_cases y : a = 0
          · subst y
            refine Or.inr (fun x => q ?_)
            rw [x]; decide
          · exact Or.inl y)
      · show (if (0 : Nat) = 25 ∧ 38 < n then gi A 32 38 else gi (si B 0 38 (nI n)) 0 38) = nI n
        rw [if_neg (fun y => absurd y.1 (by decide)), gi_eq]
      · show gi (si A 26 8 (nI n)) 32 j = (if (25 : Nat) = 25 ∧ j < n then gi A 32 j else gi (si B 0 38 (nI n)) 25 j)
        rw [if_pos ⟨rfl, hj⟩, gi_ne (Or.inl (by decide))]
    refine walkS (s := s') ex2 hs' (by rw [gi_ne (Or.inr (by decide))]; exact es') (b := 1) (by decide) (fun A3 ex3 s3 t3 fx3 k3 => ?_)
    have er : gi A3 26 6 - gi Mx 26 6 = nI n + nI L1 + nI (pthL s' 1) := by
      rw [t3, gi_ne (Or.inr (by decide)), t, nI_add, nI_add, Int32.add_assoc, nI_add, Nat.add_comm n L1]
      rw [Int32.add_comm, Int32.add_sub_cancel]
    rw [er]
    refine q _ _ (ms' _ (fun B hB g => ?_))
    rw [Nat.sub_self]
    show wb_X12_scan_131 (nI k) (nI f) (nI n) (nI n + nI L1) _ (nI n) B _
    exact bt (nI_le (by omega) (by omega)) (k3 _ (Inv_lgd hB h99 g) _ (fun B' hB' _ => ⟨rfl, hB'⟩))
end SCAN
theorem law_scan (x1 x2 x3 x4 x5 : Int32) (Mx Mm : wM) (h : Inv Mx Mm) (_ : x1 = nI 0 ∨ x1 = nI 1) : w_X11_scan x1 x2 x3 x4 x5 Mx (fun r A => w_X12_scan x1 x2 x3 x4 x5 Mm (fun r2 B => r = r2 ∧ Inv A B)) := by
  obtain ⟨nc, hn, e1, e2⟩ := Inv_sz h
  unfold w_X11_scan
  by_cases c5 : 1 ≤ x5.toInt ∧ x5.toInt ≤ 99
  · refine bf (by rw [lt_n (by decide)]; omega) (bf (by rw [n_lt (by decide)]; omega) ?_)
    have i5 : ∀ P : Int32 → wM → Prop, P (nI 1) Mm → w_X12_in x5.toInt64 (lN 1) (lN 99) Mm P := fun P p => in_t (by decide) (hi_N (by decide)) c5 p
    refine isSheet_w (fun c2 => bf ne10 (isLane_w (fun c3 => bf ne10 ?_) (fun c3 => bt rfl (i5 _ (bf ne10 (isSheetM_f (fun z => c3 z.2) (bt rfl ⟨rfl, h⟩))))))) (fun c2 => bt rfl (i5 _ (bf ne10 (isSheetM_f (fun z => c2 z.1) (bt rfl ⟨rfl, h⟩)))))
    rw [e1]
    have i3 : ∀ Q : Int32 → wM → Prop, (((gi Mm 0 22) = (nI 0) → Q (-2) Mm) ∧ (¬ (gi Mm 0 22) = (nI 0) → vp_in x2 4 ∧ (((gi Mm 40 x2.toNatClampNeg) = x3 → vp_in x2 4 ∧ (w_X12_in x4.toInt64 (lN 0) ((gi Mm 41 x2.toNatClampNeg) - (nI 1)).toInt64 Mm (fun r11 M12 => (r11 = (nI 0) → Q (-12) M12) ∧ (¬ r11 = (nI 0) → vp_in x2 4 ∧ (w_X12_in ((x4.toInt64 + x5.toInt64) - (lN 1)) (lN 0) ((gi M12 41 x2.toNatClampNeg) - (nI 1)).toInt64 M12 (fun r15 M16 => (r15 = (nI 0) → Q (-12) M16) ∧ (¬ r15 = (nI 0) → (x1 = (nI 0) → wj_X12_scan_122 x2 x4 x5 x5 (nI 4) M16 Q) ∧ (¬ x1 = (nI 0) → wj_X12_scan_122 x2 x4 x5 x5 (nI 11) M16 Q)))))))) ∧ (¬ (gi Mm 40 x2.toNatClampNeg) = x3 → vp_in x2 4 ∧ (((gi Mm 40 x2.toNatClampNeg) = (-4) → Q (-11) Mm) ∧ (¬ (gi Mm 40 x2.toNatClampNeg) = (-4) → Q (-13) Mm)))))) → w_X12_scan x1 x2 x3 x4 x5 Mm Q := by
      intro Q q
      unfold w_X12_scan
      exact i5 _ (bf ne10 (isSheetM_t c2 c3 (bf ne10 q)))
    rw [e2] at i3
    refine bc (fun z => i3 _ (bt z ⟨rfl, h⟩)) (fun z => ?_)
    obtain ⟨k, hk, rfl, ek⟩ := nI_ex (x := x2) c2.1
    obtain ⟨l, hl, rfl, el⟩ := nI_ex (x := x3) c3.1
    obtain ⟨n, hn5, rfl, en⟩ := nI_ex (x := x5) (by omega)
    have k4 : k < 4 := by omega
    have v4 : vp_in (nI k) 4 := vp_in_nI k4 (by decide)
    obtain ⟨g1, g2, g3, ⟨sz, hsz, g4⟩, -⟩ := h.2.2.2.2.2.2.2.2.1 k k4
    rw [nI_clamp (n := k) hk] at i3 ⊢
    rw [← g1, ← g2, g4] at i3
    have i4 : ∀ Q : Int32 → wM → Prop, _ → w_X12_scan x1 (nI k) (nI l) x4 (nI n) Mm Q := fun Q w => i3 Q (bf z ⟨v4, w⟩)
    refine ⟨v4, k4, ?_⟩
    refine bc (fun y => bf ne10 (i4 _ (bf (by rw [y]; exact fun x => n4_ne (by omega) x.symm) ⟨v4, bt y ⟨rfl, h⟩⟩))) (fun y => bc (fun w => ?_) (fun w => bf (by decide) (i4 _ (bf w ⟨v4, bf y ⟨rfl, h⟩⟩))))
    rw [g4]
    have lo : (nI sz - nI n).toInt = (sz : Int) - n := pk_sub_toInt (by omega) (by omega)
    by_cases c4 : 0 ≤ x4.toInt ∧ x4.toInt ≤ (sz : Int) - n
    · obtain ⟨f, hf, rfl, ef⟩ := nI_ex (x := x4) c4.1
      refine bf (by rw [lt_n (by decide)]; omega) (bt (by rw [Int32.le_iff_toInt_le, lo]; omega) (bt rfl ⟨v4, (ia_sheet k k4).1, ?_⟩))
      have i6 : ∀ Q : Int32 → wM → Prop, ((x1 = (nI 0) → wj_X12_scan_122 (nI k) (nI f) (nI n) (nI n) (nI 4) Mm Q) ∧ (¬ x1 = (nI 0) → wj_X12_scan_122 (nI k) (nI f) (nI n) (nI n) (nI 11) Mm Q)) → w_X12_scan x1 (nI k) (nI l) (nI f) (nI n) Mm Q := by
        intro Q q
        refine i4 Q (bt w ⟨v4, in_t (by decide) (hi_S (by omega)) ⟨by omega, by omega⟩ (bf ne10 ⟨v4, in_b (fun _ => bf ne10 q) (fun y => ?_)⟩)⟩)
        rw [lng3 (by omega) (by omega), hi_N (by decide), ← g2, g4, hi_S (by omega)] at y
        exact absurd ⟨by omega, by omega⟩ y
      exact bc (fun y => scanRow (Z := fun Q => w_X12_scan x1 (nI k) (nI l) (nI f) (nI n) Mm Q) (s := 0) h k4 (by omega) (by omega) (by omega) (by assumption) (by decide) (fun Q' q' => i6 Q' (bt y q')) (fun r A w => w)) (fun y => scanRow (Z := fun Q => w_X12_scan x1 (nI k) (nI l) (nI f) (nI n) Mm Q) (s := 0) h k4 (by omega) (by omega) (by omega) (by assumption) (by decide) (fun Q' q' => i6 Q' (bf y q')) (fun r A w => w))
    · have i6 : w_X12_scan x1 (nI k) (nI l) x4 (nI n) Mm (fun r2 B => (-12 : Int32) = r2 ∧ Inv Mx B) := by
        refine i4 _ (bt w ⟨v4, ?_⟩)
        by_cases c6 : 0 ≤ x4.toInt ∧ x4.toInt ≤ (sz : Int) - 1
        · obtain ⟨f, hf, rfl, ef⟩ := nI_ex (x := x4) c6.1
          refine in_t (by decide) (hi_S (by omega)) ⟨by omega, by omega⟩ (bf ne10 ⟨v4, in_b (fun y => ?_) (fun _ => bt rfl ⟨rfl, h⟩)⟩)
          rw [lng3 (by omega) (by omega), hi_N (by decide), ← g2, g4, hi_S (by omega)] at y
          exact absurd ⟨by omega, by omega⟩ c4
        · exact in_f (by decide) (hi_S (by omega)) (by omega) (bt rfl ⟨rfl, h⟩)
      refine bc (fun y => bf (by decide) i6) (fun y => bf (fun u => ?_) (bf (by decide) i6))
      rw [lt_n (by decide)] at y
      rw [Int32.le_iff_toInt_le, lo] at u
      omega
  · have w : ∀ Q : Int32 → wM → Prop, Q (-1) Mm → w_X12_scan x1 x2 x3 x4 x5 Mm Q := fun Q q => in_f (by decide) (hi_N (by decide)) c5 (bt rfl q)
    refine bc (fun _ => w _ ⟨rfl, h⟩) (fun y => bc (fun _ => w _ ⟨rfl, h⟩) (fun z => ?_))
    rw [lt_n (by decide)] at y
    rw [n_lt (by decide)] at z
    omega
