/-! the reference seeks the guesses; likely -/
def MS (nn : Nat) (M : wM) (l : List (Int32 × Int32)) : Prop := gi M 0 48 = nI l.length ∧ ∀ i x y, l[i]? = some (x, y) → gi M 33 i = x ∧ gi M 34 i = y ∧ ∀ m1 r1 m2 r2, GD nn x m1 r1 → GD nn y m2 r2 → ∀ n, n < nn → ∃ mk r, HP (eG m1 r1 m2 r2) nn (lG m1 r1 m2 r2) (fG m1 r1 m2 r2) n mk r ∧ gi M 35 (8 * i + n) = nI mk ∧ gi M 36 (8 * i + n) = nI (md r)
def kR (M M' : wM) : Prop := ∀ a j, a < 29 ∨ 36 < a → (a ≠ 0 ∨ (j ≠ 48 ∧ j ≠ 49)) → gi M' a j = gi M a j
def brd (X : wM) (s nn n : Nat) : Nat := bld (fun t => (lvR X (rowV s nn t) nn).testBit n) (rc s nn)
def ans (m1 r1 m2 r2 s nn n : Nat) : Nat := bld (fun t => (lvG m1 r1 m2 r2 (rowV s nn t)).testBit n) (rc s nn)
theorem bld_inj {f g : Nat → Bool} {k : Nat} (h : bld f k = bld g k) : ∀ i, i < k → f i = g i := by
  intro i hi
  have e := bld_bit f i k
  rw [h, bld_bit g i k, decide_eq_true hi, Bool.true_and, Bool.true_and] at e
  exact e.symm
theorem lvG_hi {nn m1 r1 m2 r2 row j : Nat} (h8 : nn ≤ 8) (h1 : m1 < 2 ^ nn) (h2 : m2 < 2 ^ nn) (hr : row < 256) (hj : nn ≤ j) : (lvG m1 r1 m2 r2 row).testBit j = row.testBit j := by
  have b8 := p8 h8
  have n1 : m1.testBit j = false := by
    cases z : m1.testBit j
    · rfl
    · have := tb_lt h1 z; omega
  have n2 : m2.testBit j = false := by
    cases z : m2.testBit j
    · rfl
    · have := tb_lt h2 z; omega
  unfold lvG
  split
  · rw [stl_bit (stl_lt hr (by omega)) (by omega), n2, if_neg (by decide), stl_bit hr (by omega), n1, if_neg (by decide)]
  · rw [stl_bit hr (Nat.or_lt_two_pow (n := 8) (by omega) (by omega)), Nat.testBit_or, n1, n2, if_neg (by decide)]
theorem ok_brd {X : wM} {s nn m1 r1 m2 r2 : Nat} (hs : s < 3) (nf : NF X nn) (h1 : m1 < 2 ^ nn) (h2 : m2 < 2 ^ nn) : (∀ t, t < rc s nn → lvG m1 r1 m2 r2 (rowV s nn t) = lvR X (rowV s nn t) nn) ↔ ∀ n, n < nn → ans m1 r1 m2 r2 s nn n = brd X s nn n := by
  have h8 := nf.1
  have b8 := p8 h8
  constructor
  · intro h n hn
    exact bld_congr _ (fun t ht => by rw [h t ht])
  · intro h t ht
    have hrow := rowV_lt hs ht
    apply Nat.eq_of_testBit_eq
    intro j
    by_cases z : j < nn
    · exact bld_inj (h j z) t ht
    · rw [lvG_hi h8 h1 h2 (by omega) (by omega), (lvR_bit nf (by omega)).2.2 j (by omega)]
theorem kR_k29 {M M' : wM} (f : k29 M M') : kR M M' := fun a j h _ => f a j (by omega) (by omega) (by omega) (by omega)
theorem kR_trans {A B C : wM} (h : kR A B) (k : kR B C) : kR A C := fun a j p q => (k a j p q).trans (h a j p q)
theorem allB_s (f : Nat → Bool) (k : Nat) : allB f (k + 1) = (allB f k && f k) := rfl
theorem trM {X M0 M : wM} {s nn : Nat} {ok : Int32 → Int32 → Bool} {l : List (Int32 × Int32)} {x y : Int32} {Q : wM → Prop} (hs : s < 3) (nf : NF X nn) (e : gi M0 0 41 = nI nn) (bd : ∀ n, n < nn → gi M0 37 n = nI (brd X s nn n)) (k : kR M0 M) (g : gdP nn x y) (hok : ok x y = true ↔ okP X s nn x y) (hl : l.length < 2556) (ms : MS nn M l) (q : ∀ M' : wM, kR M0 M' → MS nn M' (la ok l x y) → gi M' 0 49 = gi M 0 49 → Q M') : w_X12_tries (nI s) x y M Q := by
  have h8 := nf.1
  have r8 := rc_le hs h8
  have b8 := p8 h8
  obtain ⟨gne, ⟨m1, r1, g1⟩, m2, r2, g2⟩ := g
  have v1 := GD_fv h8 g1
  have v2 := GD_fv h8 g2
  have hok2 := (hok.trans (ok_of h8 g1 g2)).trans (ok_brd hs nf v1.1 v2.1)
  have eM : gi M 0 41 = nI nn := (k 0 41 (by decide) (by decide)).trans e
  unfold w_X12_tries
  refine guessM h8 eM g1 g2 (fun M2 f2 gg => ?_)
  have k2 : kR M0 M2 := kR_trans k (kR_k29 f2)
  have e2 : gi M2 0 41 = nI nn := (k2 0 41 (by decide) (by decide)).trans e
  have ms2 : MS nn M2 l := by
    refine ⟨(f2 0 48 (by decide) (by decide) (by decide) (by decide)).trans ms.1, fun i u w el => ?_⟩
    obtain ⟨a1, a2, a3⟩ := ms.2 i u w el
    refine ⟨(f2 33 _ (by decide) (by decide) (by decide) (by decide)).trans a1, (f2 34 _ (by decide) (by decide) (by decide) (by decide)).trans a2, fun p1 p2 p3 p4 d1 d2 n hn => ?_⟩
    obtain ⟨mk, r, c1, c2, c3⟩ := a3 p1 p2 p3 p4 d1 d2 n hn
    exact ⟨mk, r, c1, (f2 35 _ (by decide) (by decide) (by decide) (by decide)).trans c2, (f2 36 _ (by decide) (by decide) (by decide) (by decide)).trans c3⟩
  have e49 : gi M2 0 49 = gi M 0 49 := f2 0 49 (by decide) (by decide) (by decide) (by decide)
  have no : ¬ ok x y = true → Q M2 := fun z => q M2 k2 (by unfold la; rw [if_neg z]; exact ms2) e49
  have an : ∀ n, n < nn → ∀ mk r, HP (eG m1 r1 m2 r2) nn (lG m1 r1 m2 r2) (fG m1 r1 m2 r2) n mk r → bld (fun t => upB mk r (rowV s nn t)) (rc s nn) = ans m1 r1 m2 r2 s nn n := fun n hn mk r hp => bld_congr (rc s nn) (fun t ht => gv h8 v1 v2 (GD_ne h8 g1 g2 gne) hn (by have := rowV_lt hs ht; omega) hp)
  refine lo2 (fun K y4 y5 M => wb_X12_tries_12 (nI s) x y K y4 y5 M Q) (fun _ _ _ _ => rfl) nn (fun i b M' => M' = M2 ∧ b = bI (allB (fun n => decide (ans m1 r1 m2 r2 s nn n = brd X s nn n)) i)) ?_ ?_ (Nat.zero_le _) ⟨rfl, rfl⟩
  · rintro i b M' K hi ⟨rfl, rfl⟩ kk
    unfold wb_X12_tries_12
    rw [e2, nI_add]
    refine bf (nI_ge hi (by omega)) ?_
    cases z : allB (fun n => decide (ans m1 r1 m2 r2 s nn n = brd X s nn n)) i
    · refine bt rfl (bt rfl (no (fun w => ?_)))
      have := (allB_iff _ i).mpr (fun n hn => decide_eq_true (hok2.mp w n (by omega)))
      rw [z] at this
      cases this
    · refine bf (by decide) ?_
      obtain ⟨mk, r, hp, c1, c2⟩ := gg i hi
      have hm := hp.1
      refine ansM hs h8 hi e2 c1 c2 (by omega) hp.2.2.1 ⟨vp_in_nI (by omega) (by decide), ?_⟩
      have a1 : ans m1 r1 m2 r2 s nn i < 2 ^ 8 := Nat.lt_of_lt_of_le (bld_lt _ _) (Nat.pow_le_pow_right (by decide) r8)
      have a2 : brd X s nn i < 2 ^ 8 := Nat.lt_of_lt_of_le (bld_lt _ _) (Nat.pow_le_pow_right (by decide) r8)
      rw [an i hi mk r hp, nI_clamp (n := i) (by omega), k2 37 i (by decide) (Or.inl (by decide)), bd i hi]
      refine bc (fun w => kk _ _ ⟨rfl, ?_⟩) (fun w => kk _ _ ⟨rfl, ?_⟩)
      · rw [allB_s, z, decide_eq_true (inj31 w (by omega) (by omega))]
        rfl
      · rw [allB_s, z, decide_eq_false (fun v => w (by rw [v]))]
        rfl
  · rintro b M' K ⟨rfl, rfl⟩
    unfold wb_X12_tries_12
    rw [e2]
    refine bt (nI_le (by omega) (by omega)) ?_
    unfold wj_X12_tries_56
    cases z : allB (fun n => decide (ans m1 r1 m2 r2 s nn n = brd X s nn n)) nn
    · refine bt rfl (no (fun w => ?_))
      have := (allB_iff _ nn).mpr (fun n hn => decide_eq_true (hok2.mp w n hn))
      rw [z] at this
      cases this
    · have hk := hok2.mpr (fun n hn => of_decide_eq_true ((allB_iff _ nn).mp z n hn))
      have v : vp_in (nI l.length) 2600 := vp_in_nI (by omega) (by decide)
      rw [ms2.1, nI_clamp (n := l.length) (by omega)]
      refine bf (by decide) ⟨v, v, ?_⟩
      refine lo1 (fun K y5 M => wb_X12_tries_84 K y5 M Q) (fun _ _ _ => rfl) nn (fun i N => (∀ a j, (a < 33 ∨ 36 < a) → gi N a j = gi M' a j) ∧ (∀ j, gi N 33 j = if j = l.length then x else gi M' 33 j) ∧ (∀ j, gi N 34 j = if j = l.length then y else gi M' 34 j) ∧ (∀ j, gi N 35 j = if 8 * l.length ≤ j ∧ j < 8 * l.length + i then gi M' 29 (j - 8 * l.length) else gi M' 35 j) ∧ ∀ j, gi N 36 j = if 8 * l.length ≤ j ∧ j < 8 * l.length + i then gi M' 30 (j - 8 * l.length) else gi M' 36 j) ?_ ?_ (Nat.zero_le _) ?_
      · rintro i N K hi ⟨n0, n1, n2, n3, n4⟩ kk
        have w1 : vp_in (nI i) 8 := vp_in_nI (by omega) (by decide)
        have w2 : vp_in (nI (8 * l.length + i)) 20800 := vp_in_nI (by omega) (by decide)
        unfold wb_X12_tries_84
        rw [n0 0 41 (by decide), e2, n0 0 48 (by decide), ms2.1, nI_mul, nI_add, nI_add, nI_add, nI_clamp (n := 8 * l.length + i) (by omega), nI_clamp (n := i) (by omega), n0 29 i (by decide), n0 30 i (by decide)]
        refine bf (nI_ge hi (by omega)) ⟨w1, w2, w1, w2, kk _ ⟨fun a j h => ?_, fun j => ?_, fun j => ?_, fun j => ?_, fun j => ?_⟩⟩
        · rw [gi_ne (Or.inl (by omega)), gi_ne (Or.inl (by omega))]; exact n0 a j h
        · rw [gi_ne (Or.inl (by decide)), gi_ne (Or.inl (by decide))]; exact n1 j
        · rw [gi_ne (Or.inl (by decide)), gi_ne (Or.inl (by decide))]; exact n2 j
        · rw [gi_ne (Or.inl (by decide))]
          by_cases w : j = 8 * l.length + i
          · subst w
            rw [gi_eq, if_pos (by omega), show 8 * l.length + i - 8 * l.length = i by omega]
          · rw [gi_ne (Or.inr w), n3 j]
            by_cases u : 8 * l.length ≤ j ∧ j < 8 * l.length + i
            · rw [if_pos u, if_pos (by omega)]
            · rw [if_neg u, if_neg (by omega)]
        · by_cases w : j = 8 * l.length + i
          · subst w
            rw [gi_eq, if_pos (by omega), show 8 * l.length + i - 8 * l.length = i by omega]
          · rw [gi_ne (Or.inr w), gi_ne (Or.inl (by decide)), n4 j]
            by_cases u : 8 * l.length ≤ j ∧ j < 8 * l.length + i
            · rw [if_pos u, if_pos (by omega)]
            · rw [if_neg u, if_neg (by omega)]
      · rintro N K ⟨n0, n1, n2, n3, n4⟩
        unfold wb_X12_tries_84
        rw [n0 0 41 (by decide), e2, n0 0 48 (by decide), ms2.1, nI_add]
        refine bt (nI_le (by omega) (by omega)) (q _ (fun a j h1 h2 => ?_) ⟨?_, fun i u w el => ?_⟩ ?_)
        · rw [gi_ne (h2.imp id (fun z => z.1)), n0 a j (by omega)]
          exact k2 a j h1 h2
        · rw [gi_eq]
          unfold la
          rw [if_pos hk, List.length_append]
          rfl
        · unfold la at el
          rw [if_pos hk] at el
          rw [gi_ne (Or.inl (by decide)), gi_ne (Or.inl (by decide)), n1, n2]
          rcases app_at el with ⟨hi, el⟩ | ⟨rfl, epr⟩
          · obtain ⟨a1, a2, a3⟩ := ms2.2 i u w el
            rw [if_neg (by omega), if_neg (by omega)]
            refine ⟨a1, a2, fun p1 p2 p3 p4 d1 d2 n hn => ?_⟩
            obtain ⟨mk, r, c1, c2, c3⟩ := a3 p1 p2 p3 p4 d1 d2 n hn
            refine ⟨mk, r, c1, ?_, ?_⟩
            · rw [gi_ne (Or.inl (by decide)), n3, if_neg (by omega)]; exact c2
            · rw [gi_ne (Or.inl (by decide)), n4, if_neg (by omega)]; exact c3
          · obtain ⟨rfl, rfl⟩ : u = x ∧ w = y := Prod.mk.inj epr
            rw [if_pos rfl, if_pos rfl]
            refine ⟨rfl, rfl, fun p1 p2 p3 p4 d1 d2 n hn => ?_⟩
            obtain ⟨rfl, rfl⟩ := GD_uniq h8 g1 d1
            obtain ⟨rfl, rfl⟩ := GD_uniq h8 g2 d2
            obtain ⟨mk, r, c1, c2, c3⟩ := gg n hn
            refine ⟨mk, r, c1, ?_, ?_⟩
            · rw [gi_ne (Or.inl (by decide)), n3, if_pos (by omega), show 8 * l.length + n - 8 * l.length = n by omega]; exact c2
            · rw [gi_ne (Or.inl (by decide)), n4, if_pos (by omega), show 8 * l.length + n - 8 * l.length = n by omega]; exact c3
        · rw [gi_ne (Or.inr (by decide)), n0 0 49 (by decide)]
          exact e49
      · refine ⟨fun a j h => ?_, fun j => ?_, fun j => ?_, fun j => ?_, fun j => ?_⟩
        · rw [gi_ne (Or.inl (by omega)), gi_ne (Or.inl (by omega))]
        · rw [gi_ne (Or.inl (by decide))]
          by_cases w : j = l.length
          · rw [w, gi_eq, if_pos rfl]
          · rw [gi_ne (Or.inr w), if_neg w]
        · by_cases w : j = l.length
          · rw [w, gi_eq, if_pos rfl]
          · rw [gi_ne (Or.inr w), gi_ne (Or.inl (by decide)), if_neg w]
        · rw [gi_ne (Or.inl (by decide)), gi_ne (Or.inl (by decide)), if_neg (by omega)]
        · rw [gi_ne (Or.inl (by decide)), gi_ne (Or.inl (by decide)), if_neg (by omega)]
def kQ (M M' : wM) : Prop := ∀ a j, a < 29 ∨ 37 < a → (a ≠ 0 ∨ (j ≠ 48 ∧ j ≠ 49)) → gi M' a j = gi M a j
theorem MS_9 {nn : Nat} {A : wM} {l : List (Int32 × Int32)} {v : Int32} (h : MS nn A l) : MS nn (si A 0 49 v) l := by
  refine ⟨by rw [gi_ne (by decide)]; exact h.1, fun i x y e => ?_⟩
  obtain ⟨a1, a2, a3⟩ := h.2 i x y e
  refine ⟨by rw [gi_ne (Or.inl (by decide))]; exact a1, by rw [gi_ne (Or.inl (by decide))]; exact a2, fun p1 p2 p3 p4 d1 d2 n hn => ?_⟩
  obtain ⟨mk, r, c1, c2, c3⟩ := a3 p1 p2 p3 p4 d1 d2 n hn
  exact ⟨mk, r, c1, by rw [gi_ne (Or.inl (by decide))]; exact c2, by rw [gi_ne (Or.inl (by decide))]; exact c3⟩
theorem kR_9 {A A' : wM} {v : Int32} (h : kR A A') : kR A (si A' 0 49 v) := fun a j p q => by
  rw [gi_ne (q.imp id (fun z => z.2))]
  exact h a j p q
theorem seekM {X M : wM} {s nn : Nat} {ok : Int32 → Int32 → Bool} {Q : wM → Prop} (hs : s < 3) (nf : NF X nn) (hinv : Inv X M) (e : gi M 0 41 = nI nn) (hok : ∀ x y, gdP nn x y → (ok x y = true ↔ okP X s nn x y)) (q : ∀ M' : wM, kQ M M' → MS nn M' (lkL ok (nn * (nn + 1))) → gi M' 0 49 = nI (lkN ok (nn * (nn + 1))) → Q M') : w_X12_findLikely (nI s) M Q := by
  have h8 := nf.1
  have b8 := p8 h8
  have o := (off_ok nn (by omega)).2.2
  have o2 := off72 nn (by omega)
  unfold w_X12_findLikely
  refine togM hinv h8 nf.2.1 (fun M1 f1 g1 => ?_)
  have e1 : gi M1 0 41 = nI nn := (f1 0 41 (by decide) (by decide)).trans e
  refine lo1 (fun K y M => wb_X12_findLikely_14 (nI s) K y M Q) (fun _ _ _ => rfl) nn (fun i N => (∀ a j, a ≠ 37 → gi N a j = gi M1 a j) ∧ ∀ n, n < i → gi N 37 n = nI (brd X s nn n)) ?_ ?_ (Nat.zero_le _) ⟨fun _ _ _ => rfl, fun n hn => by omega⟩
  · rintro i N K hi ⟨n0, n1⟩ kk
    obtain ⟨mk, r, hp, c1, c2⟩ := g1 i hi
    have hm := hp.1
    unfold wb_X12_findLikely_14
    rw [n0 0 41 (by decide), e1, nI_add]
    refine bf (nI_ge hi (by omega)) (ansM hs h8 hi ((n0 0 41 (by decide)).trans e1) ((n0 29 i (by decide)).trans c1) ((n0 30 i (by decide)).trans c2) (by omega) hp.2.2.1 ⟨vp_in_nI (by omega) (by decide), kk _ ⟨fun a j h => ?_, fun n hn => ?_⟩⟩)
    · rw [gi_ne (Or.inl h)]; exact n0 a j h
    · rw [nI_clamp (n := i) (by omega)]
      by_cases z : n = i
      · subst z
        rw [gi_eq, brd, bld_congr (g := fun t => upB mk r (rowV s nn t)) (rc s nn) (fun t ht => (lvR_bit nf (by have := rowV_lt hs ht; omega)).2.1 n hi mk r hp)]
      · rw [gi_ne (Or.inr z)]; exact n1 n (by omega)
  rintro N K ⟨n0, n1⟩
  have eN : gi N 0 41 = nI nn := (n0 0 41 (by decide)).trans e1
  have kN : ∀ M', kR N M' → kQ M M' := fun M' kk a j h1 h2 => by
    rw [kk a j (by omega) h2, n0 a j (by omega)]
    exact f1 a j (by omega) (by omega)
  have eF : ∀ M', kR N M' → nI 2 * gi M' 0 41 + gi M' 0 41 * (gi M' 0 41 - nI 1) = nI (nn * (nn + 1)) := fun M' kk => by
    rw [kk 0 41 (by decide) (by decide), eN]
    exact fltN nn (by omega)
  have fin : ∀ M' : wM, kR N M' → MS nn M' (lkL ok (nn * (nn + 1))) → gi M' 0 49 = nI (lkN ok (nn * (nn + 1))) → Q M' := fun M' kk => q M' (kN M' kk)
  unfold lkL lkN at fin
  generalize hF : nn * (nn + 1) = F at o o2 eF fin
  unfold wb_X12_findLikely_14
  rw [eN]
  refine bt (nI_le (by omega) (by omega)) ?_
  have k0 : kR N (si (si N 0 48 (nI 0)) 0 49 (nI 0)) := fun a j _ h => by rw [gi_ne (h.imp id (fun z => z.2)), gi_ne (h.imp id (fun z => z.1))]
  have s0 : MS nn (si (si N 0 48 (nI 0)) 0 49 (nI 0)) [] := MS_9 ⟨gi_eq .., fun i x y e => by cases e⟩
  refine trM hs nf eN n1 k0 gd0 (hok _ _ gd0) (by decide) s0 (fun A1 k1 s1 e1' => ?_)
  rw [gi_eq] at e1'
  have len0 : ∀ l : List (Int32 × Int32), l.length ≤ 2556 → (nI l.length = nI 0 ↔ l.length = 0) := fun l hl => ⟨fun z => inj31 z (by omega) (by decide), fun z => by rw [z]⟩
  have ll0 := la_len (ok := ok) (l := []) (x := -4) (y := -4)
  have ll1 := l1_len (ok := ok) F
  have last : ∀ A' : wM, kR N A' → ∀ L : List (Int32 × Int32), L.length ≤ 2556 → MS nn A' L → (L.length = 0 → (la ok [] (-4) (-4)).length = 0 ∧ (l1 ok F).length = 0) → (¬ L.length = 0 → Q A') → wj_X12_findLikely_95 (nI s) A' Q := by
    intro A' k' L hL s' hz hn
    unfold wj_X12_findLikely_95
    rw [s'.1, len0 L hL]
    refine bc (fun z => ?_) hn
    obtain ⟨z0, z1⟩ := hz z
    rw [if_pos z0, if_pos z1, if_pos z0, if_pos z1] at fin
    have eL : L = [] := List.length_eq_zero_iff.mp z
    subst eL
    refine lo1 (fun K i M => wb_X12_findLikely_109 (nI s) K i M Q) (fun _ _ _ => rfl) F (fun f M => kR N M ∧ MS nn M (l2 ok F f) ∧ gi M 0 49 = nI 2) ?_ ?_ (Nat.zero_le _) ⟨kR_9 k', MS_9 s', gi_eq ..⟩
    · rintro f M K hf ⟨kM, sM, eM⟩ kk
      have of1 := off_mono (nn := F) hf
      have lf := l2_len (ok := ok) (F := F) f
      unfold wb_X12_findLikely_109 w_X12_faults
      rw [eF M kM, nI_add]
      refine bf (nI_ge hf (by omega)) ?_
      refine lo1 (fun K' i M => wb_X12_findLikely_121 (nI s) (nI f) K K' i M Q) (fun _ _ _ => rfl) (i0 := f + 1) F (fun g M => f < g ∧ kR N M ∧ MS nn M (l2i ok (l2 ok F f) f (g - 1 - f)) ∧ gi M 0 49 = nI 2) ?_ ?_ (by omega) ⟨by omega, kM, by rw [show f + 1 - 1 - f = 0 by omega]; exact sM, eM⟩
      · rintro g M' K' hg ⟨fg, kM', sM', eM'⟩ kk'
        have lj := l2i_len (ok := ok) (l := l2 ok F f) (f := f) (g - 1 - f)
        have gd := gd2 (nn := nn) h8 fg (by omega)
        unfold wb_X12_findLikely_121 w_X12_faults
        rw [eF M' kM', nI_add, nI_add]
        refine bf (nI_ge hg (by omega)) (trM hs nf eN n1 kM' gd (hok _ _ gd) (by omega) sM' (fun A2 k2 s2 e2 => kk' _ ⟨by omega, k2, ?_, e2.trans eM'⟩))
        have e3 : g + 1 - 1 - f = (g - 1 - f) + 1 := by omega
        rw [e3]
        show MS nn A2 (la ok (l2i ok (l2 ok F f) f (g - 1 - f)) (nI f) (nI (f + 1 + (g - 1 - f))))
        rw [show f + 1 + (g - 1 - f) = g by omega]
        exact s2
      · rintro M' K' ⟨fg, kM', sM', eM'⟩
        unfold wb_X12_findLikely_121 w_X12_faults
        rw [eF M' kM', nI_add]
        exact bt (nI_le (by omega) (by omega)) (kk _ ⟨kM', sM', eM'⟩)
    · rintro M K ⟨kM, sM, eM⟩
      unfold wb_X12_findLikely_109 w_X12_faults
      rw [eF M kM]
      exact bt (nI_le (by omega) (by omega)) (fin M kM sM eM)
  have n00 : ([] : List (Int32 × Int32)).length = 0 := rfl
  rw [s1.1, len0 _ (by omega)]
  refine bc (fun z0 => ?_) (fun z0 => ?_)
  · have eL : la ok [] (-4) (-4) = [] := List.length_eq_zero_iff.mp z0
    rw [eL] at s1
    refine lo1 (fun K i M => wb_X12_findLikely_73 (nI s) K i M Q) (fun _ _ _ => rfl) F (fun f M => kR N M ∧ MS nn M (l1 ok f) ∧ gi M 0 49 = nI 1) ?_ ?_ (Nat.zero_le _) ⟨kR_9 k1, MS_9 s1, gi_eq ..⟩
    · rintro f M K hf ⟨kM, sM, eM⟩ kk
      have lf := l1_len (ok := ok) f
      have gd := gd1 (nn := nn) (f := f) h8 (by omega)
      unfold wb_X12_findLikely_73 w_X12_faults
      rw [eF M kM, nI_add]
      exact bf (nI_ge hf (by omega)) (trM hs nf eN n1 kM gd (hok _ _ gd) (by omega) sM (fun A2 k2 s2 e2 => kk _ ⟨k2, s2, e2.trans eM⟩))
    · rintro M K ⟨kM, sM, eM⟩
      unfold wb_X12_findLikely_73 w_X12_faults
      rw [eF M kM]
      refine bt (nI_le (by omega) (by omega)) (last M kM _ (by omega) sM (fun z => ⟨z0, z⟩) (fun z1 => ?_))
      rw [if_pos z0, if_neg z1, if_pos z0, if_neg z1] at fin
      exact fin M kM sM eM
  · refine last A1 k1 _ (by omega) s1 (fun z => absurd z z0) (fun _ => ?_)
    rw [if_neg z0, if_neg z0] at fin
    exact fin A1 k1 s1 e1'
