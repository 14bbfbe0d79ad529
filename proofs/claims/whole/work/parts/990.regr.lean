/-! regroup -/
theorem of_v {mk r : Nat} (hm : mk < 256) (hr : r < 4) : nI mk ||| jshl (nI r) (nI 8) = nI (mk + 256 * r) := by
  rw [bshl (by omega) (by decide), nI_or (by omega) (by omega)]
  have e := Nat.two_pow_add_eq_or_of_lt (i := 8) (b := mk) hm r
  rw [Nat.or_comm, Nat.mul_comm r, ← e, Nat.add_comm]
def k24 (X A : wM) : Prop := (∀ x j, x ≠ 24 → x ≠ 25 → gi A x j = gi X x j) ∧ ∀ c, gp A c = gp X c
theorem k24_refl {X : wM} : k24 X X := ⟨fun _ _ _ _ => rfl, fun _ => rfl⟩
theorem k24_trans {A B C : wM} (h : k24 A B) (k : k24 B C) : k24 A C := ⟨fun x j p q => (k.1 x j p q).trans (h.1 x j p q), fun c => (k.2 c).trans (h.2 c)⟩
section RG
variable {X : wM} {nn : Nat}
theorem uniteX {M : wM} {all : Nat} {Q : wM → Prop} (h8 : nn ≤ 8) (e : gi M 12 0 = nI nn) (ha : all < 256) (q : ∀ M' : wM, (∀ x j, x ≠ 24 → gi M' x j = gi M x j) → (∀ c, gp M' c = gp M c) → (∀ i, i < nn → gi M' 24 i = if all.testBit i = true then nI all else gi M 24 i) → Q M') : w_X3_unite (nI all) M Q := by
  refine lo1 (fun K y M => wb_X3_unite_2 (nI all) K y M Q) (fun _ _ _ => rfl) nn (fun i M' => (∀ x j, x ≠ 24 → gi M' x j = gi M x j) ∧ (∀ c, gp M' c = gp M c) ∧ (∀ j, j < i → gi M' 24 j = if all.testBit j = true then nI all else gi M 24 j) ∧ ∀ j, i ≤ j → gi M' 24 j = gi M 24 j) ?_ ?_ (Nat.zero_le _) ⟨fun _ _ _ => rfl, fun _ => rfl, fun j hj => by omega, fun _ _ => rfl⟩
  · rintro i M' K hi ⟨f, g, a1, a2⟩ kk
    unfold wb_X3_unite_2
    rw [f 12 0 (by decide), e]
    refine bf (nI_ge hi (by omega)) (bit_w (by omega) (by omega) ?_)
    rw [nI_add, nI_clamp (n := i) (by omega)]
    refine bI_c (fun z => ⟨vp_in_nI (by omega) (by decide), kk _ ⟨fun x j p => ?_, g, fun j hj => ?_, fun j hj => ?_⟩⟩) (fun z => kk _ ⟨f, g, fun j hj => ?_, fun j hj => a2 j (by omega)⟩)
    · rw [gi_ne (Or.inl p)]; exact f x j p
    · by_cases y : j = i
      · rw [y, gi_eq, if_pos z]
      · rw [gi_ne (Or.inr y)]; exact a1 j (by omega)
    · rw [gi_ne (Or.inr (by omega))]; exact a2 j (by omega)
    · by_cases y : j = i
      · rw [y, if_neg (by rw [z]; decide)]; exact a2 i (Nat.le_refl _)
      · exact a1 j (by omega)
  · rintro M' K ⟨f, g, a1, a2⟩
    unfold wb_X3_unite_2
    rw [f 12 0 (by decide), e]
    exact bt (nI_le (by omega) (by omega)) (q M' f g a1)
def UF (E : Nat → Nat → Prop) (nn : Nat) (M : wM) (t : Nat → Nat) : Prop := ∀ i, i < nn → gi M 24 i = nI (t i) ∧ t i < 2 ^ nn ∧ (t i).testBit i = true ∧ ∀ j, (t i).testBit j = true → Cn E nn i j ∧ t j = t i
theorem UF_un {E : Nat → Nat → Prop} {M M' : wM} {t : Nat → Nat} {a b : Nat} (hs : ∀ x y, x < nn → y < nn → E x y → E y x) (h : UF E nn M t) (ha : a < nn) (hb : b < nn) (eab : E a b) (g : ∀ i, i < nn → gi M' 24 i = if (t a ||| t b).testBit i = true then nI (t a ||| t b) else gi M 24 i) : ∃ t', UF E nn M' t' ∧ (∀ x y, x < nn → y < nn → t x = t y → t' x = t' y) ∧ t' a = t' b := by
  have al : t a ||| t b < 2 ^ nn := Nat.or_lt_two_pow (h a ha).2.1 (h b hb).2.1
  have ai : ∀ i, i < nn → (t a ||| t b).testBit i = true → t i = t a ∨ t i = t b := by
    intro i hi z
    rw [Nat.testBit_or, Bool.or_eq_true] at z
    rcases z with z | z
    · exact Or.inl ((h a ha).2.2.2 i z).2
    · exact Or.inr ((h b hb).2.2.2 i z).2
  have sub : ∀ i, i < nn → t i = t a ∨ t i = t b → (t a ||| t b).testBit i = true := by
    intro i hi z
    have := (h i hi).2.2.1
    rw [Nat.testBit_or]
    rcases z with z | z
    · rw [← z, this, Bool.true_or]
    · rw [← z, this, Bool.or_true]
  refine ⟨fun i => if (t a ||| t b).testBit i = true then t a ||| t b else t i, fun i hi => ?_, fun x y hx hy e => ?_, ?_⟩
  · dsimp only
    rw [g i hi]
    by_cases z : (t a ||| t b).testBit i = true
    · rw [if_pos z, if_pos z]
      refine ⟨rfl, al, z, fun j hj => ⟨?_, ?_⟩⟩
      · have cab : Cn E nn a b := Cn_step Cn_refl ha hb eab
        have ia : Cn E nn i a := by
          rw [Nat.testBit_or, Bool.or_eq_true] at z
          rcases z with z | z
          · exact Cn_symm hs ((h a ha).2.2.2 i z).1
          · exact Cn_trans (Cn_symm hs ((h b hb).2.2.2 i z).1) (Cn_symm hs cab)
        rw [Nat.testBit_or, Bool.or_eq_true] at hj
        rcases hj with y | y
        · exact Cn_trans ia ((h a ha).2.2.2 j y).1
        · exact Cn_trans ia (Cn_trans cab ((h b hb).2.2.2 j y).1)
      · rw [if_pos hj]
    · rw [if_neg z, if_neg z]
      refine ⟨(h i hi).1, (h i hi).2.1, (h i hi).2.2.1, fun j hj => ?_⟩
      have w := (h i hi).2.2.2 j hj
      have hjn := tb_lt (h i hi).2.1 hj
      refine ⟨w.1, ?_⟩
      rw [if_neg (fun y => z (sub i hi (by rw [← w.2]; exact ai j hjn y)))]
      exact w.2
  · dsimp only
    by_cases z : (t a ||| t b).testBit x = true
    · rw [if_pos z, if_pos (sub y hy (by rw [← e]; exact ai x hx z))]
    · rw [if_neg z, if_neg (fun w => z (sub x hx (by rw [e]; exact ai y hy w)))]
      exact e
  · dsimp only
    rw [if_pos (sub a ha (Or.inl rfl)), if_pos (sub b hb (Or.inr rfl))]
theorem leastX {M : wM} {i m : Nat} {Q : Int32 → wM → Prop} (hi : i < 8) (em : gi M 24 i = nI m) (hm : m < 256) (q : ∀ l, ((l = i ∧ ∀ j, j < i → m.testBit j = false) ∨ (l < i ∧ m.testBit l = true ∧ ∀ j, j < l → m.testBit j = false)) → Q (nI l) M) : w_X3_leastOf (nI i) M Q := by
  refine lo1 (fun K y M => wb_X3_leastOf_2 (nI i) K y M Q) (fun _ _ _ => rfl) i (fun k M' => M' = M ∧ ∀ j, j < k → m.testBit j = false) ?_ ?_ (Nat.zero_le _) ⟨rfl, fun j hj => by omega⟩
  · rintro k M' K hk ⟨rfl, a⟩ kk
    unfold wb_X3_leastOf_2
    rw [nI_clamp (n := i) (by omega), em]
    refine bf (nI_ge hk (by omega)) ⟨vp_in_nI hi (by decide), bit_w (by omega) (by omega) (bI_c (fun z => q k (Or.inr ⟨hk, z, a⟩)) (fun z => ?_))⟩
    rw [nI_add]
    refine kk _ ⟨rfl, fun j hj => ?_⟩
    by_cases y : j = k
    · rw [y]; exact z
    · exact a j (by omega)
  · rintro M' K ⟨rfl, a⟩
    unfold wb_X3_leastOf_2
    exact bt (nI_le (by omega) (by omega)) (q i (Or.inl ⟨rfl, a⟩))
theorem hlsX {M : wM} {a : Nat} {Q : Int32 → wM → Prop} (h8 : nn ≤ 8) (ha : a < nn) (e : gi M 12 0 = nI nn) (q1 : LoX M nn a → Q (nI 1) M) (q0 : ¬ LoX M nn a → Q (nI 0) M) : w_X3_hasLeastShort (nI a) M Q := by
  refine lo1 (fun K y M => wb_X3_hasLeastShort_2 (nI a) K y M Q) (fun _ _ _ => rfl) nn (fun k M' => M' = M ∧ ∀ b, b < k → ¬ gi M (16 + a) b = nI 0) ?_ ?_ (Nat.zero_le _) ⟨rfl, fun j hj => by omega⟩
  · rintro k M' K hk ⟨rfl, g⟩ kk
    unfold wb_X3_hasLeastShort_2
    rw [e, nI_clamp (n := a) (by omega), nI_clamp (n := k) (by omega), nI_add]
    refine bf (nI_ge hk (by omega)) ⟨vp_in_nI (by omega) (by decide), vp_in_nI (by omega) (by decide), bc (fun z => q1 ⟨k, hk, z⟩) (fun z => kk _ ⟨rfl, fun b hb => ?_⟩)⟩
    by_cases y : b = k
    · rw [y]; exact z
    · exact g b (by omega)
  · rintro M' K ⟨rfl, g⟩
    unfold wb_X3_hasLeastShort_2
    rw [e]
    exact bt (nI_le (by omega) (by omega)) (q0 (fun ⟨b, b1, b2⟩ => g b b1 b2))
theorem ruleX {M : wM} {mk : Nat} {Q : Int32 → wM → Prop} (h8 : nn ≤ 8) (hm : mk < 256) (e : gi M 12 0 = nI nn) (hl : ∀ a, a < nn → lvl (gi M 14 a)) (q : ∀ r, r < 4 → rl (fun a => mk.testBit a = true) nn (LoX M nn) (gi M 14) r → Q (nI r) M) : w_X3_ruleOf (nI mk) M Q := by
  refine lo2 (fun K y2 y M => wb_X3_ruleOf_4 (nI mk) K y2 y M Q) (fun _ _ _ _ => rfl) nn (fun k y M' => M' = M ∧ (∀ a, a < k → mk.testBit a = true → gi M 14 a = -4) ∧ ((y = nI 2 ∧ ∃ a, a < k ∧ mk.testBit a = true ∧ LoX M nn a) ∨ (y = nI 3 ∧ ∀ a, a < k → mk.testBit a = true → ¬ LoX M nn a))) ?_ ?_ (Nat.zero_le _) ⟨rfl, fun a h => by omega, Or.inr ⟨rfl, fun a h => by omega⟩⟩
  · rintro k y M' K hk ⟨rfl, g, gy⟩ kk
    have v8 : vp_in (nI k) 8 := vp_in_nI (by omega) (by decide)
    unfold wb_X3_ruleOf_4
    rw [e]
    refine bf (nI_ge hk (by omega)) (bit_w (by omega) (by omega) ?_)
    rw [nI_add, nI_clamp (n := k) (by omega)]
    refine bI_c (fun z => ⟨v8, bc (fun w => hlsX h8 hk e (fun u => bf ne10 (kk _ _ ⟨rfl, fun a ha ta => ?_, Or.inl ⟨rfl, k, by omega, z, u⟩⟩)) (fun u => bt rfl (kk _ _ ⟨rfl, fun a ha ta => ?_, ?_⟩))) (fun w => ⟨v8, ?_⟩)⟩) (fun z => kk _ _ ⟨rfl, fun a ha ta => ?_, ?_⟩)
    · by_cases x : a = k
      · rw [x]; exact w
      · exact g a (by omega) ta
    · by_cases x : a = k
      · rw [x]; exact w
      · exact g a (by omega) ta
    · rcases gy with ⟨y1, a, a1, a2, a3⟩ | ⟨y1, y2⟩
      · exact Or.inl ⟨y1, a, by omega, a2, a3⟩
      · refine Or.inr ⟨y1, fun a ha ta => ?_⟩
        by_cases x : a = k
        · rw [x]; exact u
        · exact y2 a (by omega) ta
    · have g' : ∀ b, b < k → mk.testBit b = true → gi M' 14 b = -4 := g
      rcases hl k hk with x | x | x
      · exact absurd x w
      · exact bt x (q 0 (by decide) (Or.inl ⟨k, hk, z, x, by decide, g'⟩))
      · exact bf (by rw [x]; decide) (q 1 (by decide) (Or.inl ⟨k, hk, z, x, by decide, g'⟩))
    · by_cases x : a = k
      · rw [x, z] at ta; cases ta
      · exact g a (by omega) ta
    · rcases gy with ⟨y1, a, a1, a2, a3⟩ | ⟨y1, y2⟩
      · exact Or.inl ⟨y1, a, by omega, a2, a3⟩
      · refine Or.inr ⟨y1, fun a ha ta => ?_⟩
        by_cases x : a = k
        · rw [x, z] at ta; cases ta
        · exact y2 a (by omega) ta
  · rintro y M' K ⟨rfl, g, gy⟩
    unfold wb_X3_ruleOf_4
    rw [e]
    refine bt (nI_le (by omega) (by omega)) ?_
    rcases gy with ⟨rfl, w⟩ | ⟨rfl, w⟩
    · exact q 2 (by decide) (Or.inr ⟨g, Or.inl ⟨w, rfl⟩⟩)
    · exact q 3 (by decide) (Or.inr ⟨g, Or.inr ⟨fun ⟨a, a1, a2, a3⟩ => w a a1 a2 a3, rfl⟩⟩)
theorem regX {Q : wM → Prop} (h8 : nn ≤ 8) (e : gi X 12 0 = nI nn) (hs : ∀ x y, x < nn → y < nn → EX X x y → EX X y x) (hl : ∀ a, a < nn → lvl (gi X 14 a)) (q : ∀ A : wM, k24 X A → iG A → Q A) : w_X3_regroup X Q := by
  have b8 := p8 h8
  -- together: each alone
  refine lo1 (fun K y M => wb_X3_regroup_2 K y M Q) (fun _ _ _ => rfl) nn (fun i A => k24 X A ∧ ∀ j, j < i → gi A 24 j = nI (2 ^ j)) ?_ ?_ (Nat.zero_le _) ⟨k24_refl, fun j h => by omega⟩
  · rintro i A K hi ⟨f, g⟩ kk
    unfold wb_X3_regroup_2
    rw [f.1 12 0 (by decide) (by decide), e, nI_clamp (n := i) (by omega), nI_add, bshl1 (by omega)]
    refine bf (nI_ge hi (by omega)) ⟨vp_in_nI (by omega) (by decide), kk _ ⟨⟨fun x j p p' => ?_, f.2⟩, fun j hj => ?_⟩⟩
    · rw [gi_ne (Or.inl p)]; exact f.1 x j p p'
    · by_cases y : j = i
      · rw [y, gi_eq]
      · rw [gi_ne (Or.inr y)]; exact g j (by omega)
  rintro A1 K1 ⟨f1, g1⟩
  unfold wb_X3_regroup_2
  rw [f1.1 12 0 (by decide) (by decide), e]
  refine bt (nI_le (by omega) (by omega)) ?_
  have uf0 : UF (EX X) nn A1 (fun i => 2 ^ i) := by
    intro i hi
    refine ⟨g1 i hi, Nat.pow_lt_pow_right (by decide) hi, by rw [Nat.testBit_two_pow]; exact decide_eq_true rfl, fun j hj => ?_⟩
    rw [Nat.testBit_two_pow] at hj
    have := of_decide_eq_true hj
    subst this
    exact ⟨Cn_refl, rfl⟩
  -- unite along each short
  refine lo1 (fun K y M => wb_X3_regroup_27 K y M Q) (fun _ _ _ => rfl) nn (fun a A => k24 X A ∧ ∃ t, UF (EX X) nn A t ∧ ∀ x y, x < y → y < nn → x < a → EX X x y → t x = t y) ?_ ?_ (Nat.zero_le _) ⟨f1, _, uf0, fun x y _ _ h => by omega⟩
  · rintro a A K ha ⟨f, t, uf, ed⟩ kk
    unfold wb_X3_regroup_27
    rw [f.1 12 0 (by decide) (by decide), e, nI_add]
    refine bf (nI_ge ha (by omega)) ?_
    refine lo1 (fun K' y M => wb_X3_regroup_39 (nI a) K K' y M Q) (fun _ _ _ => rfl) (i0 := a + 1) nn (fun b A => k24 X A ∧ ∃ t, UF (EX X) nn A t ∧ ∀ x y, x < y → y < nn → (x < a ∨ (x = a ∧ y < b)) → EX X x y → t x = t y) ?_ ?_ (by omega) ⟨f, t, uf, fun x y h1 h2 h3 h4 => ed x y h1 h2 (by omega) h4⟩
    · rintro b A' K' hb ⟨f', t', uf', ed'⟩ kk'
      unfold wb_X3_regroup_39
      rw [f'.1 12 0 (by decide) (by decide), e, nI_clamp (n := a) (by omega), nI_clamp (n := b) (by omega), nI_add, nI_add]
      refine bf (nI_ge hb (by omega)) ?_
      rw [f'.1 (16 + a) b (by omega) (by omega)]
      refine ⟨vp_in_nI (by omega) (by decide), vp_in_nI (by omega) (by decide), bc (fun z => kk' _ ⟨f', t', uf', fun x y h1 h2 h3 h4 => ?_⟩) (fun z => ⟨vp_in_nI (by omega) (by decide), vp_in_nI (by omega) (by decide), ?_⟩)⟩
      · by_cases w : x = a ∧ y = b
        · obtain ⟨rfl, rfl⟩ := w
          exact absurd z h4
        · exact ed' x y h1 h2 (by omega) h4
      · have ua := uf' a ha
        have ub := uf' b hb
        have la := ua.2.1
        have lb := ub.2.1
        rw [ua.1, ub.1, nI_or (by omega) (by omega)]
        refine uniteX h8 ((f'.1 12 0 (by decide) (by decide)).trans e) (Nat.or_lt_two_pow (n := 8) (by omega) (by omega)) (fun M2 m1 m2 m3 => ?_)
        obtain ⟨t2, u2, k2, k3⟩ := UF_un hs uf' ha hb z m3
        refine kk' _ ⟨⟨fun x j p p' => (m1 x j p).trans (f'.1 x j p p'), fun c => (m2 c).trans (f'.2 c)⟩, t2, u2, fun x y h1 h2 h3 h4 => ?_⟩
        by_cases w : x = a ∧ y = b
        · obtain ⟨rfl, rfl⟩ := w
          exact k3
        · exact k2 x y (by omega) h2 (ed' x y h1 h2 (by omega) h4)
    · rintro A' K' ⟨f', t', uf', ed'⟩
      unfold wb_X3_regroup_39
      rw [f'.1 12 0 (by decide) (by decide), e, nI_add]
      exact bt (nI_le (by omega) (by omega)) (kk _ ⟨f', t', uf', fun x y h1 h2 h3 h4 => ed' x y h1 h2 (by omega) h4⟩)
  rintro A2 K2 ⟨f2, t, uf, ed⟩
  unfold wb_X3_regroup_27
  rw [f2.1 12 0 (by decide) (by decide), e]
  refine bt (nI_le (by omega) (by omega)) ?_
  have cm : ∀ i, i < nn → ∀ j, (t i).testBit j = true ↔ Cn (EX X) nn i j := by
    intro i hi j
    refine ⟨fun z => ((uf i hi).2.2.2 j z).1, fun z => z (fun x => (t i).testBit x = true) (uf i hi).2.2.1 (fun x y hx hy sx exy => ?_)⟩
    have exy2 : t x = t y := by
      rcases Nat.lt_trichotomy x y with w | w | w
      · exact ed x y w hy hx exy
      · rw [w]
      · exact (ed y x w hx hy (hs x y hx hy exy)).symm
    rw [← ((uf i hi).2.2.2 x sx).2, exy2]
    exact (uf y hy).2.2.1
  -- the groups
  refine lo1 (fun K y M => wb_X3_regroup_91 K y M Q) (fun _ _ _ => rfl) nn (fun i A => (∀ x j, x ≠ 25 → gi A x j = gi A2 x j) ∧ (∀ c, gp A c = gp A2 c) ∧ ∀ l, l < i → ((∃ j, j < l ∧ Cn (EX X) nn l j) → gi A 25 l = nI 0) ∧ ((¬ ∃ j, j < l ∧ Cn (EX X) nn l j) → ∃ r, r < 4 ∧ rl (Cn (EX X) nn l) nn (LoX X nn) (gi X 14) r ∧ gi A 25 l = nI (t l + 256 * r))) ?_ ?_ (Nat.zero_le _) ⟨fun _ _ _ => rfl, fun _ => rfl, fun l h => by omega⟩
  · rintro i A K hi ⟨f, g, hg⟩ kk
    have f3 : ∀ x j, x ≠ 24 → x ≠ 25 → gi A x j = gi X x j := fun x j p p' => (f x j p').trans (f2.1 x j p p')
    have e24 : gi A 24 i = nI (t i) := (f 24 i (by decide)).trans (uf i hi).1
    have ti := (uf i hi).2.1
    have v8 : vp_in (nI i) 8 := vp_in_nI (by omega) (by decide)
    have put : ∀ v, (((∃ j, j < i ∧ Cn (EX X) nn i j) → v = nI 0) ∧ ((¬ ∃ j, j < i ∧ Cn (EX X) nn i j) → ∃ r, r < 4 ∧ rl (Cn (EX X) nn i) nn (LoX X nn) (gi X 14) r ∧ v = nI (t i + 256 * r))) → K (nI (i + 1)) (si A 25 i v) := by
      intro v hv
      refine kk _ ⟨fun x j p => ?_, g, fun l hl => ?_⟩
      · rw [gi_ne (Or.inl p)]; exact f x j p
      · by_cases y : l = i
        · subst y; rw [gi_eq]; exact hv
        · rw [gi_ne (Or.inr y)]; exact hg l (by omega)
    unfold wb_X3_regroup_91
    rw [f3 12 0 (by decide) (by decide), e, nI_add]
    refine bf (nI_ge hi (by omega)) (leastX (by omega) e24 (by omega) (fun l hl => ?_))
    rw [nI_clamp (n := i) (by omega), e24]
    rcases hl with ⟨rfl, z⟩ | ⟨z1, z2, z3⟩
    · have nl : ¬ ∃ j, j < l ∧ Cn (EX X) nn l j := fun ⟨j, j1, j2⟩ => by
        have := z j j1
        rw [(cm l hi j).mpr j2] at this
        cases this
      refine bt rfl ⟨v8, v8, ruleX h8 (by omega) ((f3 12 0 (by decide) (by decide)).trans e) (fun a ha => by rw [f3 14 a (by decide) (by decide)]; exact hl a ha) (fun r r4 hr => ?_)⟩
      unfold w_X2_of
      rw [of_v (by omega) r4]
      refine ⟨v8, put _ ⟨fun y => absurd y nl, fun _ => ⟨r, r4, ?_, rfl⟩⟩⟩
      refine rl_congr (fun a => cm l hi a) (fun a ha => ?_) (fun a ha => f3 14 a (by decide) (by decide)) hr
      unfold LoX
      constructor
      · rintro ⟨b, b1, b2⟩
        exact ⟨b, b1, by rw [← f3 (16 + a) b (by omega) (by omega)]; exact b2⟩
      · rintro ⟨b, b1, b2⟩
        exact ⟨b, b1, by rw [f3 (16 + a) b (by omega) (by omega)]; exact b2⟩
    · refine bf (fun y => by have := inj31 y (by omega) (by omega); omega) ⟨v8, put _ ⟨fun _ => rfl, fun y => absurd ⟨l, z1, (cm i hi l).mp z2⟩ y⟩⟩
  · rintro A K ⟨f, g, hg⟩
    have f3 : ∀ x j, x ≠ 24 → x ≠ 25 → gi A x j = gi X x j := fun x j p p' => (f x j p').trans (f2.1 x j p p')
    unfold wb_X3_regroup_91
    rw [f3 12 0 (by decide) (by decide), e]
    refine bt (nI_le (by omega) (by omega)) (q A ⟨f3, fun c => (g c).trans (f2.2 c)⟩ ⟨nn, h8, (f3 12 0 (by decide) (by decide)).trans e, fun i hi => ?_⟩)
    have eC : ∀ j, Conn A nn i j ↔ Cn (EX X) nn i j := fun j => Conn_fr h8 (fun x y hx => f3 (16 + x) y (by omega) (by omega)) i j
    have ti := (uf i hi).2.1
    refine ⟨t i, by omega, (f 24 i (by decide)).trans (uf i hi).1, fun j => ?_, fun y => (hg i hi).1 ?_, fun y => ?_⟩
    · rw [cm i hi j, eC j]
      exact ⟨fun z => ⟨Cn_lt hi z, z⟩, fun z => z.2⟩
    · obtain ⟨j, j1, j2⟩ := y
      exact ⟨j, j1, (eC j).mp j2⟩
    · obtain ⟨r, r1, r2, r3⟩ := (hg i hi).2 (fun ⟨j, j1, j2⟩ => y ⟨j, j1, (eC j).mpr j2⟩)
      exact ⟨r, r1, ruleR_fr h8 (fun x y hx => f3 (16 + x) y (by omega) (by omega)) (fun j => f3 14 j (by decide) (by decide)) (rl_ruleR r2), r3⟩
end RG
