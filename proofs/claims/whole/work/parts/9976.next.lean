/-! the next row; next -/
noncomputable def gq (nn : Nat) (x : Int32) : Nat × Nat := Classical.epsilon (fun p : Nat × Nat => GD nn x p.1 p.2)
theorem gq_gd {nn : Nat} {x : Int32} (h : ∃ m r, GD nn x m r) : GD nn x (gq nn x).1 (gq nn x).2 := by
  obtain ⟨m, r, h⟩ := h
  exact Classical.epsilon_spec (p := fun p : Nat × Nat => GD nn x p.1 p.2) ⟨(m, r), h⟩
noncomputable def lvP (nn : Nat) (p : Int32 × Int32) (row : Nat) : Nat := lvG (gq nn p.1).1 (gq nn p.1).2 (gq nn p.2).1 (gq nn p.2).2 row
noncomputable def lvi (nn : Nat) (L : List (Int32 × Int32)) (row i : Nat) : Nat := lvP nn (L.getD i (-4, -4)) row
theorem lvi_at {nn row i : Nat} {L : List (Int32 × Int32)} {x y : Int32} (h : L[i]? = some (x, y)) : lvi nn L row i = lvP nn (x, y) row := by
  unfold lvi
  rw [List.getD, h]
  rfl
theorem lvG_lt2 {nn m1 r1 m2 r2 row : Nat} (h8 : nn ≤ 8) (h1 : m1 < 2 ^ nn) (h2 : m2 < 2 ^ nn) (hr : row < 2 ^ nn) : lvG m1 r1 m2 r2 row < 2 ^ nn := by
  have b8 := p8 h8
  refine Nat.lt_pow_two_of_testBit _ (fun j hj => ?_)
  rw [lvG_hi h8 h1 h2 (by omega) hj]
  exact Nat.testBit_lt_two_pow (Nat.lt_of_lt_of_le hr (Nat.pow_le_pow_right (by decide) hj))
theorem lvP_lt {nn row : Nat} {x y : Int32} (h8 : nn ≤ 8) (g : gdP nn x y) (hr : row < 2 ^ nn) : lvP nn (x, y) row < 2 ^ nn := lvG_lt2 h8 (GD_fv h8 (gq_gd g.2.1)).1 (GD_fv h8 (gq_gd g.2.2)).1 hr
def hcn (f : Nat → Nat) (v : Nat) : Nat → Nat
  | 0 => 0
  | i + 1 => hcn f v i + (if f i = v then 1 else 0)
def hmx (f : Nat → Nat) : Nat → Nat
  | 0 => 0
  | i + 1 => max (hmx f i) (hcn f (f i) (i + 1))
theorem hcn_le (f : Nat → Nat) (v : Nat) : ∀ i, hcn f v i ≤ i
  | 0 => Nat.le_refl _
  | i + 1 => by
    have := hcn_le f v i
    show hcn f v i + (if f i = v then 1 else 0) ≤ i + 1
    split <;> omega
theorem hmx_le (f : Nat → Nat) : ∀ i, hmx f i ≤ i
  | 0 => Nat.le_refl _
  | i + 1 => by
    have h1 := hmx_le f i
    have h2 := hcn_le f (f i) (i + 1)
    show max (hmx f i) (hcn f (f i) (i + 1)) ≤ i + 1
    omega
theorem hcn_self (f : Nat → Nat) (i : Nat) : hcn f (f i) (i + 1) = hcn f (f i) i + 1 := by
  show hcn f (f i) i + (if f i = f i then 1 else 0) = _
  rw [if_pos rfl]
theorem hcn_ne {f : Nat → Nat} {v i : Nat} (h : v ≠ f i) : hcn f v (i + 1) = hcn f v i := by
  show hcn f v i + (if f i = v then 1 else 0) = _
  rw [if_neg (fun z => h z.symm), Nat.add_zero]
theorem jmax_n {a b : Nat} (ha : a < 2 ^ 31) (hb : b < 2 ^ 31) : jmax (nI a) (nI b) = nI (max a b) := by
  unfold jmax
  by_cases z : a < b
  · rw [if_pos ((lt_nn ha hb).mpr z), show max a b = b by omega]
  · rw [if_neg (fun y => z ((lt_nn ha hb).mp y)), show max a b = a by omega]
theorem ia_63 : iaX 63 ∧ lnX 63 = 256 := by
  unfold iaX
  decide
theorem ghX {nn row : Nat} {A : wM} {L : List (Int32 × Int32)} {Q : Int32 → wM → Prop} (h8 : nn ≤ 8) (hrow : row < 2 ^ nn) (ls : LSx nn A L) (hl : L.length ≤ 2556) (q : ∀ A' : wM, (∀ a j, a ≠ 63 → gi A' a j = gi A a j) → (∀ c, gp A' c = gp A c) → Q (nI (hmx (lvi nn L row) L.length)) A') : w_X10_greatestHeap (nI row) A Q := by
  have b8 := p8 h8
  unfold w_X10_greatestHeap
  refine fillX ia_63.1 (by rw [ia_63.2]; decide) (fun A1 z1 f1 g1 => ?_)
  rw [ia_63.2] at z1
  refine lo2 (fun K y2 y3 M => wb_X10_greatestHeap_12 (nI row) K y2 y3 M Q) (fun _ _ _ _ => rfl) L.length (fun i y M => (∀ a j, a ≠ 63 → gi M a j = gi A a j) ∧ (∀ c, gp M c = gp A c) ∧ (∀ v, v < 256 → gi M 63 v = nI (hcn (lvi nn L row) v i)) ∧ y = nI (hmx (lvi nn L row) i)) ?_ ?_ (Nat.zero_le _) ⟨f1, g1, z1, rfl⟩
  · rintro i y M K hi ⟨f, g, z, rfl⟩ kk
    obtain ⟨pq, hp⟩ : ∃ pq, L[i]? = some pq := ⟨_, List.getElem?_eq_getElem hi⟩
    obtain ⟨u, w⟩ := pq
    obtain ⟨-, -, gd, a3, a4⟩ := ls.2 i u w hp
    have g1 := gq_gd gd.2.1
    have g2 := gq_gd gd.2.2
    have v1 := GD_fv h8 g1
    have v2 := GD_fv h8 g2
    have w1 := v1.1
    have w2 := v2.1
    have lt := lvP_lt h8 gd hrow
    have e := lvi_at (nn := nn) (row := row) hp
    have v : vp_in (nI i) 2556 := vp_in_nI (by omega) (by decide)
    have c1 := hcn_le (lvi nn L row) (lvi nn L row i) i
    have c2 := hmx_le (lvi nn L row) i
    unfold wb_X10_greatestHeap_12
    rw [f 54 8 (by decide), ls.1, nI_clamp (n := i) (by omega), f 61 i (by decide), f 62 i (by decide), a3 _ _ g1, a4 _ _ g2, nI_add]
    refine bf (nI_ge hi (by omega)) ⟨v, v, lbX (by omega) v1.2.1 (by omega) v2.2.1 (by omega) ?_⟩
    have eL : lvG (gq nn u).1 (gq nn u).2 (gq nn w).1 (gq nn w).2 row = lvi nn L row i := e.symm
    rw [← e] at lt
    rw [eL, pk_andN (m := nI 255) (by omega) 8 (by decide), Nat.mod_eq_of_lt (show lvi nn L row i < 2 ^ 8 by omega), nI_clamp (n := lvi nn L row i) (by omega), gi_eq, z _ (by omega), nI_add, jmax_n (by omega) (by omega), ← hcn_self]
    have v3 : vp_in (nI (lvi nn L row i)) 256 := vp_in_nI (by omega) (by decide)
    refine ⟨v3, v3, v3, kk _ _ ⟨fun a j h => ?_, g, fun x hx => ?_, rfl⟩⟩
    · rw [gi_ne (Or.inl h)]; exact f a j h
    · by_cases t : x = lvi nn L row i
      · rw [t, gi_eq]
      · rw [gi_ne (Or.inr t), hcn_ne t]; exact z x hx
  · rintro y M K ⟨f, g, z, rfl⟩
    unfold wb_X10_greatestHeap_12
    rw [f 54 8 (by decide), ls.1]
    exact bt (nI_le (by omega) (by omega)) (q M f g)
/-- the best row so far, and its heap -/
def bst (g : Nat → Nat) (init : Nat) : Nat → Nat × Nat
  | 0 => (0, init)
  | r + 1 => if g r < (bst g init r).2 then (r, g r) else bst g init r
theorem bst_eq {g : Nat → Nat} {a b : Nat} (ha : g 0 < a) (hb : g 0 < b) : ∀ r, bst g a (r + 1) = bst g b (r + 1)
  | 0 => by
    show (if g 0 < a then (0, g 0) else (0, a)) = if g 0 < b then (0, g 0) else (0, b)
    rw [if_pos ha, if_pos hb]
  | r + 1 => by
    show (if g (r + 1) < (bst g a (r + 1)).2 then (r + 1, g (r + 1)) else bst g a (r + 1)) = if g (r + 1) < (bst g b (r + 1)).2 then (r + 1, g (r + 1)) else bst g b (r + 1)
    rw [bst_eq ha hb r]
theorem bst_le {g : Nat → Nat} {a b : Nat} (h : ∀ r, g r ≤ b) (ha : a ≤ b + 1) : ∀ r, (bst g a r).1 ≤ r ∧ (bst g a r).2 ≤ b + 1
  | 0 => ⟨Nat.le_refl _, ha⟩
  | r + 1 => by
    have ih := bst_le h ha r
    have := h r
    show (if g r < (bst g a r).2 then (r, g r) else bst g a r).1 ≤ r + 1 ∧ (if g r < (bst g a r).2 then (r, g r) else bst g a r).2 ≤ b + 1
    split
    · exact ⟨Nat.le_succ _, by show g r ≤ b + 1; omega⟩
    · exact ⟨by omega, ih.2⟩
noncomputable def hpf (nn : Nat) (L : List (Int32 × Int32)) (row : Nat) : Nat := hmx (lvi nn L row) L.length
def kP (A A' : wM) : Prop := (∀ a j, a ≠ 63 → (a ≠ 54 ∨ (j ≠ 15 ∧ j ≠ 16)) → gi A' a j = gi A a j) ∧ ∀ c, gp A' c = gp A c
theorem sprX {nn : Nat} {A : wM} {L : List (Int32 × Int32)} {Q : wM → Prop} (h8 : nn ≤ 8) (e : gi A 12 0 = nI nn) (ls : LSx nn A L) (hl : L.length ≤ 2556) (q : ∀ A' : wM, kP A A' → gi A' 54 15 = nI (bst (hpf nn L) (L.length + 1) (2 ^ nn)).1 → gi A' 54 16 = nI (bst (hpf nn L) (L.length + 1) (2 ^ nn)).2 → Q A') : w_X10_seekPartingRow A Q := by
  have b8 := p8 h8
  have lsP : ∀ A', kP A A' → LSx nn A' L := fun A' k => by
    refine ⟨(k.1 54 8 (by decide) (by decide)).trans ls.1, fun i x y el => ?_⟩
    rw [k.1 59 i (by decide) (Or.inl (by decide)), k.1 60 i (by decide) (Or.inl (by decide)), k.1 61 i (by decide) (Or.inl (by decide)), k.1 62 i (by decide) (Or.inl (by decide))]
    exact ls.2 i x y el
  have bl := bst_le (g := hpf nn L) (a := L.length + 1) (b := L.length) (fun r => hmx_le _ _) (Nat.le_refl _)
  unfold w_X10_seekPartingRow
  rw [ls.1, nI_add]
  refine lo1 (fun K y M => wb_X10_seekPartingRow_17 K y M Q) (fun _ _ _ => rfl) (2 ^ nn) (fun i M => kP A M ∧ gi M 54 15 = nI (bst (hpf nn L) (L.length + 1) i).1 ∧ gi M 54 16 = nI (bst (hpf nn L) (L.length + 1) i).2) ?_ ?_ (Nat.zero_le _) ⟨⟨fun a j _ h => ?_, fun _ => rfl⟩, gi_eq .., ?_⟩
  · rintro i M K hi ⟨k, a1, a2⟩ kk
    have h2 := bl i
    have h3 : hpf nn L i ≤ L.length := hmx_le _ _
    unfold wb_X10_seekPartingRow_17
    rw [k.1 12 0 (by decide) (by decide), e, bshl1 (by omega), nI_add]
    refine bf (nI_ge hi (by omega)) (ghX h8 hi (lsP M k) hl (fun A2 f2 g2 => ?_))
    have k2 : kP A A2 := ⟨fun a j h1 h2 => (f2 a j h1).trans (k.1 a j h1 h2), fun c => (g2 c).trans (k.2 c)⟩
    rw [f2 54 16 (by decide), a2]
    have bs : bst (hpf nn L) (L.length + 1) (i + 1) = if hpf nn L i < (bst (hpf nn L) (L.length + 1) i).2 then (i, hpf nn L i) else bst (hpf nn L) (L.length + 1) i := rfl
    show (nI (bst (hpf nn L) (L.length + 1) i).2 ≤ nI (hpf nn L i) → _) ∧ (¬ nI (bst (hpf nn L) (L.length + 1) i).2 ≤ nI (hpf nn L i) → K (nI (i + 1)) (si (si A2 54 16 (nI (hpf nn L i))) 54 15 (nI i)))
    by_cases z : hpf nn L i < (bst (hpf nn L) (L.length + 1) i).2
    · rw [if_pos z] at bs
      refine bf (nI_ge z (by omega)) (kk _ ⟨⟨fun a j h1 h2 => ?_, k2.2⟩, ?_, ?_⟩)
      · rw [gi_ne (h2.imp id (fun z => z.1)), gi_ne (h2.imp id (fun z => z.2))]; exact k2.1 a j h1 h2
      · rw [gi_eq, bs]
      · rw [gi_ne (Or.inr (by decide)), gi_eq, bs]
    · rw [if_neg z] at bs
      refine bt (nI_le (by omega) (by omega)) (kk _ ⟨k2, ?_, ?_⟩)
      · rw [f2 54 15 (by decide), bs]; exact a1
      · rw [f2 54 16 (by decide), bs]; exact a2
  · rintro M K ⟨k, a1, a2⟩
    unfold wb_X10_seekPartingRow_17
    rw [k.1 12 0 (by decide) (by decide), e, bshl1 (by omega)]
    exact bt (nI_le (by omega) (by omega)) (q M k a1 a2)
  · rw [gi_ne (h.imp id (fun z => z.1)), gi_ne (h.imp id (fun z => z.2))]
  · rw [gi_ne (Or.inr (by decide)), gi_eq]
    rfl
theorem bld_self {v n : Nat} (h : v < 2 ^ n) : bld (fun i => v.testBit i) n = v := by
  apply Nat.eq_of_testBit_eq
  intro i
  rw [bld_bit]
  by_cases z : i < n
  · rw [decide_eq_true z, Bool.true_and]
  · rw [decide_eq_false z, Bool.false_and]
    exact (Nat.testBit_lt_two_pow (Nat.lt_of_lt_of_le h (Nat.pow_le_pow_right (by decide) (by omega)))).symm
theorem nextM {nn : Nat} {M : wM} {z2 : Int32} {L : List (Int32 × Int32)} {Q : Int32 → wM → Prop} (h8 : nn ≤ 8) (e : gi M 0 41 = nI nn) (ms : MS nn M L) (gd : ∀ (i : Nat) (x y : Int32), L[i]? = some (x, y) → gdP nn x y) (hl : L.length ≤ 2556) (q : ∀ M' : wM, (∀ a j, a ≠ 39 → gi M' a j = gi M a j) → (z2 = nI 0 → Q (nI (bst (hpf nn L) 3000 (2 ^ nn)).1) M') ∧ (¬ z2 = nI 0 → Q (nI (bst (hpf nn L) 3000 (2 ^ nn)).2) M')) : ∃ n, wL_X12_next__59 z2 Q n (nI 0) (nI 3000) (nI 0) M := by
  have b8 := p8 h8
  have bl := bst_le (g := hpf nn L) (a := 3000) (b := 2999) (fun r => Nat.le_trans (hmx_le _ _) (by omega)) (Nat.le_refl _)
  refine lo3 (fun K y3 y4 y5 M => wb_X12_next__59 z2 K y3 y4 y5 M Q) (fun _ _ _ _ _ => rfl) (2 ^ nn) (fun i a b N => (∀ a j, a ≠ 39 → gi N a j = gi M a j) ∧ a = nI (bst (hpf nn L) 3000 i).1 ∧ b = nI (bst (hpf nn L) 3000 i).2) ?_ ?_ (Nat.zero_le _) ⟨fun _ _ _ => rfl, rfl, rfl⟩
  · rintro row a b N K59 hrow ⟨f0, rfl, rfl⟩ kk
    have h2 := bl row
    have h3 : hpf nn L row ≤ L.length := hmx_le _ _
    unfold wb_X12_next__59
    rw [f0 0 41 (by decide), e, bshl1 (by omega)]
    refine bf (nI_ge hrow (by omega)) ?_
    refine lo1 (fun K y M => wb_X12_next__76 z2 _ _ (nI row) (nI 0) K59 K y M Q) (fun _ _ _ => rfl) 256 (fun i N => (∀ a j, a ≠ 39 → gi N a j = gi M a j) ∧ ∀ v, v < i → gi N 39 v = nI 0) ?_ ?_ (Nat.zero_le _) ⟨f0, fun v hv => by omega⟩
    · rintro i N K hi ⟨f, g⟩ kk1
      unfold wb_X12_next__76
      rw [nI_add, nI_clamp (n := i) (by omega)]
      refine bf (nI_ge hi (by decide)) ⟨vp_in_nI hi (by decide), kk1 _ ⟨fun a j h => ?_, fun v hv => ?_⟩⟩
      · rw [gi_ne (Or.inl h)]; exact f a j h
      · by_cases z : v = i
        · rw [z, gi_eq]
        · rw [gi_ne (Or.inr z)]; exact g v (by omega)
    rintro N1 K1 ⟨f1, g1⟩
    unfold wb_X12_next__76
    refine bt (nI_le (by decide) (by decide)) ?_
    refine lo2 (fun K y6 y7 M => wb_X12_next__101 z2 _ _ (nI row) K59 K y6 y7 M Q) (fun _ _ _ _ => rfl) L.length (fun i y N => (∀ a j, a ≠ 39 → gi N a j = gi M a j) ∧ (∀ v, v < 256 → gi N 39 v = nI (hcn (lvi nn L row) v i)) ∧ y = nI (hmx (lvi nn L row) i)) ?_ ?_ (Nat.zero_le _) ⟨f1, g1, rfl⟩
    · rintro i y N K101 hi ⟨f, z, rfl⟩ kk1
      obtain ⟨pq, hp⟩ : ∃ pq, L[i]? = some pq := ⟨_, List.getElem?_eq_getElem hi⟩
      obtain ⟨u, w⟩ := pq
      have gdu := gd i u w hp
      obtain ⟨-, -, a3⟩ := ms.2 i u w hp
      have g1 := gq_gd gdu.2.1
      have g2 := gq_gd gdu.2.2
      have v1 := GD_fv h8 g1
      have v2 := GD_fv h8 g2
      have lt := lvP_lt h8 gdu hrow
      have e1 := lvi_at (nn := nn) (row := row) hp
      rw [← e1] at lt
      have c1 := hcn_le (lvi nn L row) (lvi nn L row i) i
      have c2 := hmx_le (lvi nn L row) i
      unfold wb_X12_next__101
      rw [f 0 48 (by decide), ms.1]
      refine bf (nI_ge hi (by omega)) ?_
      refine lo2 (fun K y8 y9 M => wb_X12_next__116 z2 _ _ (nI row) _ (nI i) K59 K101 K y8 y9 M Q) (fun _ _ _ _ => rfl) nn (fun n y N' => N' = N ∧ y = nI (bld (fun t => (lvi nn L row i).testBit t) n)) ?_ ?_ (Nat.zero_le _) ⟨rfl, rfl⟩
      · rintro n y N' K hn ⟨rfl, rfl⟩ kk2
        obtain ⟨mk, r, hpn, d1, d2⟩ := a3 _ _ _ _ g1 g2 n hn
        have hm := hpn.1
        have v : vp_in (nI (8 * i + n)) 20800 := vp_in_nI (by omega) (by decide)
        unfold wb_X12_next__116
        rw [f 0 41 (by decide), e, nI_mul, nI_add, nI_add, nI_add, nI_clamp (n := 8 * i + n) (by omega), f 35 _ (by decide), f 36 _ (by decide), d1, d2]
        refine bf (nI_ge hn (by omega)) ⟨v, v, levelByM (by omega) (by omega) hpn.2.2.1 ?_⟩
        have eu : upB mk r row = (lvi nn L row i).testBit n := by
          rw [e1]
          exact gv h8 v1 v2 (GD_ne h8 g1 g2 gdu.1) hn (by omega) hpn
        rw [eu]
        exact kk2 _ _ ⟨rfl, bld_or (f := fun t => (lvi nn L row i).testBit t) (by omega)⟩
      · rintro y N' K ⟨rfl, rfl⟩
        have v : vp_in (nI (lvi nn L row i)) 256 := vp_in_nI (by omega) (by decide)
        have hm : hmx (lvi nn L row) (i + 1) = max (hmx (lvi nn L row) i) (hcn (lvi nn L row) (lvi nn L row i) (i + 1)) := rfl
        have hs := hcn_self (lvi nn L row) i
        unfold wb_X12_next__116
        rw [f 0 41 (by decide), e, bld_self lt, nI_clamp (n := lvi nn L row i) (by omega), gi_eq, z _ (by omega), nI_add, nI_add, ← hs]
        have inv : ∀ v, v < 256 → gi (si N' 39 (lvi nn L row i) (nI (hcn (lvi nn L row) (lvi nn L row i) (i + 1)))) 39 v = nI (hcn (lvi nn L row) v (i + 1)) := by
          intro x hx
          by_cases t : x = lvi nn L row i
          · rw [t, gi_eq]
          · rw [gi_ne (Or.inr t), hcn_ne t]; exact z x hx
        have inv0 : ∀ a j, a ≠ 39 → gi (si N' 39 (lvi nn L row i) (nI (hcn (lvi nn L row) (lvi nn L row i) (i + 1)))) a j = gi M a j := fun a j h => by rw [gi_ne (Or.inl h)]; exact f a j h
        refine bt (nI_le (by omega) (by omega)) ⟨v, v, v, ?_⟩
        by_cases t : hcn (lvi nn L row) (lvi nn L row i) (i + 1) ≤ hmx (lvi nn L row) i
        · exact bt (nI_le t (by omega)) (kk1 _ _ ⟨inv0, inv, by rw [hm, show max (hmx (lvi nn L row) i) (hcn (lvi nn L row) (lvi nn L row i) (i + 1)) = hmx (lvi nn L row) i by omega]⟩)
        · exact bf (nI_ge (by omega) (by omega)) ⟨v, kk1 _ _ ⟨inv0, inv, by rw [hm, show max (hmx (lvi nn L row) i) (hcn (lvi nn L row) (lvi nn L row i) (i + 1)) = hcn (lvi nn L row) (lvi nn L row i) (i + 1) by omega]⟩⟩
    · rintro y N K ⟨f, z, rfl⟩
      unfold wb_X12_next__101
      rw [f 0 48 (by decide), ms.1, nI_add]
      have bs : bst (hpf nn L) 3000 (row + 1) = if hpf nn L row < (bst (hpf nn L) 3000 row).2 then (row, hpf nn L row) else bst (hpf nn L) 3000 row := rfl
      refine bt (nI_le (by omega) (by omega)) ?_
      show (nI (bst (hpf nn L) 3000 row).2 ≤ nI (hpf nn L row) → _) ∧ (¬ nI (bst (hpf nn L) 3000 row).2 ≤ nI (hpf nn L row) → K59 (nI row) (nI (hpf nn L row)) (nI (row + 1)) N)
      by_cases t : hpf nn L row < (bst (hpf nn L) 3000 row).2
      · rw [if_pos t] at bs
        exact bf (nI_ge t (by omega)) (kk _ _ _ ⟨f, by rw [bs], by rw [bs]⟩)
      · rw [if_neg t] at bs
        exact bt (nI_le (by omega) (by omega)) (kk _ _ _ ⟨f, by rw [bs], by rw [bs]⟩)
  · rintro a b N K ⟨f, rfl, rfl⟩
    unfold wb_X12_next__59
    rw [f 0 41 (by decide), e, bshl1 (by omega)]
    exact bt (nI_le (by omega) (by omega)) (q N f)
theorem Inv_kP {A A' M : wM} (h : Inv A M) (k : kP A A') : Inv A' M :=
  Inv_fr (T := [54, 63]) (S := []) h ⟨fun a j q => k.1 a j (fun z => q (by rw [z]; simp [cX])) (Or.inl (fun z => q (by rw [z]; simp [cX]))), k.2⟩ sM_refl
theorem Inv_39 {X M M' : wM} (h : Inv X M) (k : ∀ a j, a ≠ 39 → gi M' a j = gi M a j) : Inv X M' :=
  Inv_fr (T := []) (S := [39]) h sX_refl (fun a j q => k a j (fun z => q (by rw [z]; simp [cM])))
theorem law_next (x1 x2 : Int32) (Mx Mm : wM) (h : Inv Mx Mm) : w_X11_next x1 x2 Mx (fun r A => w_X12_next_ x1 x2 Mm (fun r2 B => r = r2 ∧ Inv A B)) := by
  obtain ⟨nc, nn, h1, h8, -, -, e5, e6, -⟩ := Inv_cf h
  have nf := Inv_nf h h8 e5
  have o := (off_ok nn (by omega)).2.2
  have b8 := p8 h8
  unfold w_X11_next
  refine isSort_w (fun c1 => bf ne10 ?_) (fun c1 => bt rfl (in_f (by decide) (hi_N (by decide)) c1 (bt rfl ⟨rfl, h⟩)))
  obtain ⟨s, hs, rfl, es⟩ := nI_ex (x := x1) c1.1
  have s3 : s < 3 := by omega
  have imN : ∀ Q : Int32 → wM → Prop, ¬ (0 ≤ x2.toInt ∧ x2.toInt ≤ 1) → Q (-1) Mm → w_X12_next_ (nI s) x2 Mm Q := by
    intro Q c q
    unfold w_X12_next_
    exact in_t (by decide) (hi_N (by decide)) c1 (bf ne10 (in_f (by decide) (hi_N (by decide)) c (bt rfl q)))
  refine bc (fun z => ?_) (fun z => bc (fun y => ?_) (fun y => ?_))
  · rw [lt_n (by decide)] at z
    exact imN _ (by omega) ⟨rfl, h⟩
  · rw [lt_n (by decide)] at z
    rw [le_n (by decide)] at y
    have c2 : 0 ≤ x2.toInt ∧ x2.toInt ≤ 1 := by omega
    have imY : ∀ Q : Int32 → wM → Prop, ((nI nn = nI 0 → Q (-2) Mm) ∧ (¬ nI nn = nI 0 → w_X12_findLikely (nI s) Mm (fun M9 => ((gi M9 0 48) = (nI 0) → Q (-4) M9) ∧ (¬ (gi M9 0 48) = (nI 0) → ∃ n, wL_X12_next__59 x2 Q n (nI 0) (nI 3000) (nI 0) M9)))) → w_X12_next_ (nI s) x2 Mm Q := by
      intro Q q
      unfold w_X12_next_
      refine in_t (by decide) (hi_N (by decide)) c1 (bf ne10 (in_t (by decide) (hi_N (by decide)) c2 (bf ne10 ?_)))
      rw [e6]
      exact q
    rw [e5]
    refine bc (fun w => imY _ (bt w ⟨rfl, h⟩)) (fun w => ?_)
    refine prepX s3 nf (fun A p => seekX (ok := okB Mx s nn) s3 nf p (okB_ok Mx s nn) (fun A2 k2 ls e9 => ?_))
    have ll := lkL_len (ok := okB Mx s nn) h8
    have im2 : ∀ Q : Int32 → wM → Prop, (∀ M9 : wM, Inv A2 M9 → MS nn M9 (lkL (okB Mx s nn) (nn * (nn + 1))) → gi M9 0 41 = nI nn → ((gi M9 0 48) = (nI 0) → Q (-4) M9) ∧ (¬ (gi M9 0 48) = (nI 0) → ∃ n, wL_X12_next__59 x2 Q n (nI 0) (nI 3000) (nI 0) M9)) → w_X12_next_ (nI s) x2 Mm Q := by
      intro Q q
      exact imY Q (bf w (seekM (ok := okB Mx s nn) s3 nf h e6 (okB_ok Mx s nn) (fun M2 kq ms e10 => q M2 (Inv_kS (Inv_pr (Inv_kQ h kq) p) k2) ms ((kq 0 41 (by decide) (by decide)).trans e6))))
    generalize lkL (okB Mx s nn) (nn * (nn + 1)) = L at ls ll im2
    have e12 : gi A2 12 0 = nI nn := ((k2.1 12 0 (by decide) (by decide)).trans (p.1.1 12 0 (by decide))).trans e5
    rw [ls.1]
    refine bc (fun t => im2 _ (fun M9 i9 ms _ => ?_)) (fun t => ?_)
    · rw [ms.1]
      exact bt t ⟨rfl, i9⟩
    · refine sprX h8 e12 ls ll (fun A3 k3 a1 a2 => ?_)
      have hpos : 0 < 2 ^ nn := Nat.two_pow_pos nn
      have be : bst (hpf nn L) (L.length + 1) (2 ^ nn) = bst (hpf nn L) 3000 (2 ^ nn) := by
        have h0 : hpf nn L 0 ≤ L.length := hmx_le _ _
        obtain ⟨r, hr⟩ : ∃ r, 2 ^ nn = r + 1 := ⟨2 ^ nn - 1, by omega⟩
        rw [hr]
        exact bst_eq (by omega) (by omega) r
      rw [a1, a2, be]
      have fin : ∀ v, (x2 = nI 0 → v = nI (bst (hpf nn L) 3000 (2 ^ nn)).1) → (¬ x2 = nI 0 → v = nI (bst (hpf nn L) 3000 (2 ^ nn)).2) → w_X12_next_ (nI s) x2 Mm (fun r2 B => v = r2 ∧ Inv A3 B) := by
        intro v v1 v2
        refine im2 _ (fun M9 i9 ms e41 => ?_)
        rw [ms.1]
        refine bf t (nextM h8 e41 ms (fun i x y el => (ls.2 i x y el).2.2.1) ll (fun M' f => ?_))
        have i3 := Inv_kP (Inv_39 i9 f) k3
        exact bc (fun u => ⟨v1 u, i3⟩) (fun u => ⟨v2 u, i3⟩)
      exact bc (fun u => fin _ (fun _ => rfl) (fun u2 => absurd u u2)) (fun u => fin _ (fun u2 => absurd u2 u) (fun _ => rfl))
  · rw [lt_n (by decide)] at z
    rw [le_n (by decide)] at y
    exact imN _ (by omega) ⟨rfl, h⟩
